/-! ===== older ===== -/
theorem cpy_s {f g : Nat → Int32} {k : Nat} : va_up (va_cpy f g 0 0 k) k (f k) = va_cpy f g 0 0 (k + 1) := by
  funext i; unfold va_up va_cpy
  by_cases z : i = k
  · rw [if_pos z, if_pos (by omega), z]; congr 1; omega
  · rw [if_neg z]
    by_cases z2 : i < k
    · rw [if_pos (by omega), if_pos (by omega)]
    · rw [if_neg (by omega), if_neg (by omega)]
theorem cpy_0 {f g : Nat → Int32} : va_cpy f g 0 0 0 = g := by funext k; unfold va_cpy; rw [if_neg (by omega)]
theorem nr_cong {F b : Nat} {B B' : Nat → Int32} (h : ∀ i, i < pop F → B' i = B i) : nr F B' b = nr F B b := bs_ext (fun c _ => by
  constructor
  · rintro ⟨i, j, h1, h2, h3, h4, h5⟩
    exact ⟨i, j, h1, h2, by rw [← h i h1]; exact h3, h4, by rw [← h j h2]; exact h5⟩
  · rintro ⟨i, j, h1, h2, h3, h4, h5⟩
    exact ⟨i, j, h1, h2, by rw [h i h1]; exact h3, h4, by rw [h j h2]; exact h5⟩)
theorem badS_cong {F1 F2 al : Nat} {B1 B1' B2 B2' : Nat → Int32} {mks : Nat → Nat} (h1 : ∀ i, i < pop F1 → B1' i = B1 i) (h2 : ∀ i, i < pop F2 → B2' i = B2 i) : badS F1 B1' F2 B2' al mks = badS F1 B1 F2 B2 al mks := bs_ext (fun b _ => by
  rw [nr_cong h1, nr_cong h2]
  constructor
  · rintro ⟨⟨i, a, e⟩, z⟩; exact ⟨⟨i, a, by rw [← h2 i a]; exact e⟩, z⟩
  · rintro ⟨⟨i, a, e⟩, z⟩; exact ⟨⟨i, a, by rw [h2 i a]; exact e⟩, z⟩)
theorem twi_cong {F1 F2 : Nat} {B1 B1' B2 B2' : Nat → Int32} (h1 : ∀ i, i < pop F1 → B1' i = B1 i) (h2 : ∀ i, i < pop F2 → B2' i = B2 i) : twi F1 B1' F2 B2' = twi F1 B1 F2 B2 := by
  unfold twi
  exact fb_sm_cong (fun b _ => by rw [nr_cong h1, nr_cong h2])
noncomputable def tell (F1 : Nat) (B1 : Nat → Int32) (F2 : Nat) (B2 : Nat → Int32) (al be : Nat) (mks : Nat → Nat) : Nat := (if pop (badS F1 B1 F2 B2 al mks) ≤ be then 1 else 0) + (if pop (badS F2 B2 F1 B1 al mks) ≤ be then 2 else 0)
theorem tell_cong {F1 F2 al be : Nat} {B1 B1' B2 B2' : Nat → Int32} {mks : Nat → Nat} (h1 : ∀ i, i < pop F1 → B1' i = B1 i) (h2 : ∀ i, i < pop F2 → B2' i = B2 i) : tell F1 B1' F2 B2' al be mks = tell F1 B1 F2 B2 al be mks := by
  unfold tell
  rw [badS_cong h1 h2, badS_cong h2 h1]
theorem tell_lt {F1 F2 al be : Nat} {B1 B2 : Nat → Int32} {mks : Nat → Nat} : tell F1 B1 F2 B2 al be mks < 4 := by unfold tell; split <;> split <;> omega
theorem WB_del {B : Nat → Int32} {N i : Nat} (hB : WB B N) : WB (va_up B i (-1)) N := by
  refine ⟨fun j hj => ?_, fun j k hj hk he hn => ?_, fun j hj hj2 => ?_⟩
  · by_cases e : j = i
    · rw [e, vu_eq]; exact .inl rfl
    · rw [vu_ne e]; exact hB.1 j hj
  · by_cases e : j = i
    · subst e; rw [vu_eq] at hn; exact absurd rfl hn
    · by_cases e' : k = i
      · subst e'
        rw [vu_eq] at he
        rw [he] at hn; exact absurd rfl hn
      · rw [vu_ne e, vu_ne e'] at he
        rw [vu_ne e] at hn
        exact hB.2.1 j k hj hk he hn
  · by_cases e : j = i
    · rw [e, vu_eq]
    · rw [vu_ne e]; exact hB.2.2 j hj hj2
theorem c_tellOlder {X : Nat × (Nat → Int32)} {d : Nat} {I : Nat → Nat → Int32} {J : Nat → Nat → Int64} {W1 W2 F1 F2 al be : Nat} {mks : Nat → Nat} (hd : 5 ≤ d) (hW1 : WG (mk I J) W1 F1) (hB1 : WB (I (W1 + 1)) (pop F1)) (hW2 : WG (mk I J) W2 F2) (hB2 : WB (I (W2 + 1)) (pop F2)) (d1 : W1 + 3 < 137 ∨ 139 < W1) (d2 : W2 + 3 < 137 ∨ 139 < W2) (hal : I 1 1 = nI al) (hal2 : al < 2) (hm : ∀ k, k < 24 → I 2 k = nI (mks k)) (hm4 : ∀ k, k < 24 → mks k < 4) (hbe : I 1 2 = nI be) (hbe2 : be ≤ 24) :
    ∃ I', callF X d 147 [.ref 0, .ref W1, .ref W2] (mk I J) = some (some (.int (nI (tell F1 (I (W1 + 1)) F2 (I (W2 + 1)) al be mks))), mk I' J) ∧ ∀ a, a < 137 ∨ 139 < a → I' a = I a := by
  obtain ⟨d, rfl⟩ : ∃ d', d = d' + 1 := ⟨d - 1, by omega⟩
  have g1 := c_isGood (X := X) (d := d) (by omega) hW1 hB1 hW2 hB2 d1 d2 hal hal2 hm hm4 hbe hbe2
  obtain ⟨I1, hI1⟩ : ∃ I1, I1 = Inear I F1 (I (W1 + 1)) F2 (I (W2 + 1)) al mks := ⟨_, rfl⟩
  have f1 : ∀ a, a < 137 ∨ 139 < a → I1 a = I a := fun a ha => by rw [hI1]; exact In_fr ha
  rw [← hI1] at g1
  have hW1' : WG (mk I1 J) W1 F1 := WG_fr hW1 (fun a _ _ => f1 a (by omega)) rfl
  have hW2' : WG (mk I1 J) W2 F2 := WG_fr hW2 (fun a _ _ => f1 a (by omega)) rfl
  have e1 : I1 (W1 + 1) = I (W1 + 1) := f1 _ (by omega)
  have e2 : I1 (W2 + 1) = I (W2 + 1) := f1 _ (by omega)
  have g2 := c_isGood (X := X) (d := d) (by omega) hW2' (by rw [e2]; exact hB2) hW1' (by rw [e1]; exact hB1) d2 d1 (by rw [f1 _ (by omega)]; exact hal) hal2 (by rw [f1 _ (by omega)]; exact hm) hm4 (by rw [f1 _ (by omega)]; exact hbe) hbe2
  rw [e1, e2] at g2
  refine ⟨Inear I1 F2 (I (W2 + 1)) F1 (I (W1 + 1)) al mks, ?_, fun a ha => by rw [In_fr ha, f1 a ha]⟩
  refine callF_at (by omega) (by decide) (Nat.le_of_ble_eq_true rfl) (fun d' hd' => ?_)
  obtain rfl : d = d' := by omega
  show Ev X d 147 0 [.ref 0, .ref W1, .ref W2, .retAddr 0] [] (mk I J) _
  unfold tell
  by_cases z1 : pop (badS F1 (I (W1 + 1)) F2 (I (W2 + 1)) al mks) ≤ be
  · by_cases z2 : pop (badS F2 (I (W2 + 1)) F1 (I (W1 + 1)) al mks) ≤ be
    · simp (disch := first | omega | assumption | exact rfl) only [U_147_0, U_147_1, U_147_2, U_147_3, U_147_4, U_147_5, U_147_6, XX, QQ, WW, KK, QX, SHs, RRs, Nat.reduceAdd, Nat.reduceMul, Nat.reduceLeDiff, Nat.reduceEqDiff, List.length_cons, List.length_nil, decide_true, decide_false, Bool.true_and, Bool.and_true, Bool.false_and, Bool.and_false, false_and, and_false, Bool.false_eq_true, Bool.true_eq_false, reduceCtorEq, eq_self, if_true, if_false, true_and, and_true, not_true_eq_false, not_false_eq_true, if_pos, if_neg, z_ite_not, false_or, or_false, true_or, or_true, SWs, swk_0, swk_1, g1, g2]
    · simp (disch := first | omega | assumption | exact rfl) only [U_147_0, U_147_1, U_147_2, U_147_3, U_147_4, U_147_5, U_147_6, XX, QQ, WW, KK, QX, SHs, RRs, Nat.reduceAdd, Nat.reduceMul, Nat.reduceLeDiff, Nat.reduceEqDiff, List.length_cons, List.length_nil, decide_true, decide_false, Bool.true_and, Bool.and_true, Bool.false_and, Bool.and_false, false_and, and_false, Bool.false_eq_true, Bool.true_eq_false, reduceCtorEq, eq_self, if_true, if_false, true_and, and_true, not_true_eq_false, not_false_eq_true, if_pos, if_neg, z_ite_not, false_or, or_false, true_or, or_true, SWs, swk_0, swk_1, g1, g2]
  · by_cases z2 : pop (badS F2 (I (W2 + 1)) F1 (I (W1 + 1)) al mks) ≤ be
    · simp (disch := first | omega | assumption | exact rfl) only [U_147_0, U_147_1, U_147_2, U_147_3, U_147_4, U_147_5, U_147_6, XX, QQ, WW, KK, QX, SHs, RRs, Nat.reduceAdd, Nat.reduceMul, Nat.reduceLeDiff, Nat.reduceEqDiff, List.length_cons, List.length_nil, decide_true, decide_false, Bool.true_and, Bool.and_true, Bool.false_and, Bool.and_false, false_and, and_false, Bool.false_eq_true, Bool.true_eq_false, reduceCtorEq, eq_self, if_true, if_false, true_and, and_true, not_true_eq_false, not_false_eq_true, if_pos, if_neg, z_ite_not, false_or, or_false, true_or, or_true, SWs, swk_0, swk_1, g1, g2]
    · simp (disch := first | omega | assumption | exact rfl) only [U_147_0, U_147_1, U_147_2, U_147_3, U_147_4, U_147_5, U_147_6, XX, QQ, WW, KK, QX, SHs, RRs, Nat.reduceAdd, Nat.reduceMul, Nat.reduceLeDiff, Nat.reduceEqDiff, List.length_cons, List.length_nil, decide_true, decide_false, Bool.true_and, Bool.and_true, Bool.false_and, Bool.and_false, false_and, and_false, Bool.false_eq_true, Bool.true_eq_false, reduceCtorEq, eq_self, if_true, if_false, true_and, and_true, not_true_eq_false, not_false_eq_true, if_pos, if_neg, z_ite_not, false_or, or_false, true_or, or_true, SWs, swk_0, swk_1, g1, g2]
theorem r_olderOf {X : Nat × (Nat → Int32)} {d : Nat} {I : Nat → Nat → Int32} {J : Nat → Nat → Int64} {F1 F2 al be : Nat} {B1 B2 : Nat → Int32} {mks : Nat → Nat} (hd : 5 ≤ d) (h1 : ∀ b, b < 24 → I 199 b = nI (nr F1 B1 b)) (h2 : ∀ b, b < 24 → I 200 b = nI (nr F2 B2 b)) (hal : I 178 1 = nI al) (hal2 : al < 2) (hm : ∀ k, k < 24 → I 178 (10 + k) = nI (mks k)) (hm4 : ∀ k, k < 24 → mks k < 4) (hbe : I 178 2 = nI be) (hbe2 : be ≤ 24) :
    ∃ I', callF X d 254 [.ref 177, .int (nI (ins F1 B1)), .int (nI (ins F2 B2))] (mk I J) = some (some (.int (nI (tell F1 B1 F2 B2 al be mks))), mk I' J) ∧ (∀ a, a ≠ 177 → a ≠ 186 → a ≠ 187 → I' a = I a) ∧ ∀ k, k ≠ 26 → k ≠ 27 → I' 177 k = I 177 k := by
  obtain ⟨d, rfl⟩ : ∃ d', d = d' + 1 := ⟨d - 1, by omega⟩
  obtain ⟨I1, hI1⟩ : ∃ I1, I1 = va_up (va_up (va_up I 186 (va_cpy (I 199) (I 186) 0 0 24)) 187 (va_cpy (I 200) (I 187) 0 0 24)) 177 (va_up (va_up (I 177) 26 (nI (ins F1 B1))) 27 (nI (ins F2 B2))) := ⟨_, rfl⟩
  have f1 : ∀ a, a ≠ 177 → a ≠ 186 → a ≠ 187 → I1 a = I a := fun a a1 a2 a3 => by rw [hI1, vu_ne a1, vu_ne a3, vu_ne a2]
  have n1 : NS I1 (ins F1 B1) (ins F2 B2) (nr F1 B1) (nr F2 B2) := by
    refine ⟨?_, ?_, fun b hb => ?_, fun b hb => ?_, ins_lt _ _, ins_lt _ _, nr_lt _ _, nr_lt _ _⟩
    · rw [hI1, vu_eq, vu_ne (by decide), vu_eq]
    · rw [hI1, vu_eq, vu_eq]
    · rw [hI1, vu_ne (by decide), vu_ne (by decide), vu_eq, va_cpy0 hb]; exact h1 b hb
    · rw [hI1, vu_ne (by decide), vu_eq, va_cpy0 hb]; exact h2 b hb
  have e178 : I1 178 = I 178 := f1 _ (by decide) (by decide) (by decide)
  have b1 := r_badOnes (X := X) (d := d) (J := J) (by omega) n1 (by rw [e178]; exact hal) hal2 (by rw [e178]; exact hm) hm4
  rw [bad_eq] at b1
  obtain ⟨I2, hI2⟩ : ∃ I2, I2 = va_up (va_up (va_up I1 186 (va_cpy (I1 200) (I1 186) 0 0 24)) 187 (va_cpy (I1 199) (I1 187) 0 0 24)) 177 (va_up (va_up (I1 177) 26 (nI (ins F2 B2))) 27 (nI (ins F1 B1))) := ⟨_, rfl⟩
  have f2 : ∀ a, a ≠ 177 → a ≠ 186 → a ≠ 187 → I2 a = I1 a := fun a a1 a2 a3 => by rw [hI2, vu_ne a1, vu_ne a3, vu_ne a2]
  have n2 : NS I2 (ins F2 B2) (ins F1 B1) (nr F2 B2) (nr F1 B1) := by
    refine ⟨?_, ?_, fun b hb => ?_, fun b hb => ?_, ins_lt _ _, ins_lt _ _, nr_lt _ _, nr_lt _ _⟩
    · rw [hI2, vu_eq, vu_ne (by decide), vu_eq]
    · rw [hI2, vu_eq, vu_eq]
    · rw [hI2, vu_ne (by decide), vu_ne (by decide), vu_eq, va_cpy0 hb, f1 _ (by decide) (by decide) (by decide)]; exact h2 b hb
    · rw [hI2, vu_ne (by decide), vu_eq, va_cpy0 hb, f1 _ (by decide) (by decide) (by decide)]; exact h1 b hb
  have e178' : I2 178 = I 178 := by rw [f2 _ (by decide) (by decide) (by decide), e178]
  have b2 := r_badOnes (X := X) (d := d) (J := J) (by omega) n2 (by rw [e178']; exact hal) hal2 (by rw [e178']; exact hm) hm4
  rw [bad_eq] at b2
  have l1 : badS F1 B1 F2 B2 al mks < 2 ^ 24 := bs_lt _
  have l2 : badS F2 B2 F1 B1 al mks < 2 ^ 24 := bs_lt _
  have l3 := pop_le (badS F1 B1 F2 B2 al mks)
  have l4 := pop_le (badS F2 B2 F1 B1 al mks)
  have hbe1 : I1 178 2 = nI be := by rw [e178]; exact hbe
  have hbe3 : I2 178 2 = nI be := by rw [e178']; exact hbe
  refine ⟨I2, ?_, fun a a1 a2 a3 => by rw [f2 a a1 a2 a3, f1 a a1 a2 a3], fun k k1 k2 => by rw [hI2, vu_eq, vu_ne k2, vu_ne k1, hI1, vu_eq, vu_ne k2, vu_ne k1]⟩
  refine callF_at (by omega) (by decide) (Nat.le_of_ble_eq_true rfl) (fun d' hd' => ?_)
  obtain rfl : d = d' := by omega
  show Ev X d 254 0 [.ref 177, .int (nI (ins F1 B1)), .int (nI (ins F2 B2)), .retAddr 0, .retAddr 0] [] (mk I J) _
  have last : ∀ (v : Nat), v < 2 → (if pop (badS F1 B1 F2 B2 al mks) ≤ be then 1 else 0) = v → Ev X d 254 6 [.ref 177, .int (nI (ins F1 B1)), .int (nI (ins F2 B2)), .int (nI 24), .retAddr 0] [.int (nI v)] (mk I1 J) (some (.int (nI (tell F1 B1 F2 B2 al be mks))), mk I2 J) := by
    intro v hv ev
    simp (disch := first | omega | assumption | exact rfl) only [U_254_6, XX, QQ, WW, KK, QX, SHs, RRs, Nat.reduceAdd, Nat.reduceMul, Nat.reduceLeDiff, Nat.reduceEqDiff, List.length_cons, List.length_nil, decide_true, decide_false, Bool.true_and, Bool.and_true, Bool.false_and, Bool.and_false, false_and, and_false, Bool.false_eq_true, Bool.true_eq_false, reduceCtorEq, eq_self, if_true, if_false, true_and, and_true, not_true_eq_false, not_false_eq_true, if_pos, if_neg, z_ite_not, false_or, or_false, true_or, or_true, SWs, swk_0, swk_1]
    refine lpI (n := 24) (P := fun k => Ev X d 254 7 [.ref 177, .int (nI (ins F1 B1)), .int (nI (ins F2 B2)), .int (nI v), .int (nI k)] [] (mk (va_up (va_up I1 186 (va_cpy (I1 200) (I1 186) 0 0 k)) 187 (va_cpy (I1 199) (I1 187) 0 0 k)) J) (some (.int (nI (tell F1 B1 F2 B2 al be mks))), mk I2 J)) ?_ ?_ (fun L => by rw [cpy_0, cpy_0, vu_id, vu_id] at L; exact L)
    · rw [U_254_7]
      rw [hI2] at b2
      rw [hI2] at hbe3
      unfold tell
      rw [ev]
      by_cases z2 : pop (badS F2 B2 F1 B1 al mks) ≤ be
      · obtain rfl | rfl : v = 0 ∨ v = 1 := by omega
        · simp (disch := first | omega | assumption | exact rfl) only [U_254_9, U_254_10, U_254_11, U_254_12, U_254_13, U_254_14, U_254_15, U_254_16, U_254_17, U_254_18, U_254_19, XX, QQ, WW, KK, QX, SHs, RRs, Nat.reduceAdd, Nat.reduceMul, Nat.reduceLeDiff, Nat.reduceEqDiff, List.length_cons, List.length_nil, decide_true, decide_false, Bool.true_and, Bool.and_true, Bool.false_and, Bool.and_false, false_and, and_false, Bool.false_eq_true, Bool.true_eq_false, reduceCtorEq, eq_self, if_true, if_false, true_and, and_true, not_true_eq_false, not_false_eq_true, if_pos, if_neg, z_ite_not, false_or, or_false, true_or, or_true, SWs, swk_0, swk_1, b2, r_count, hbe3, hbe1]
          rw [← hI2]
        · simp (disch := first | omega | assumption | exact rfl) only [U_254_9, U_254_10, U_254_11, U_254_12, U_254_13, U_254_14, U_254_15, U_254_16, U_254_17, U_254_18, U_254_19, XX, QQ, WW, KK, QX, SHs, RRs, Nat.reduceAdd, Nat.reduceMul, Nat.reduceLeDiff, Nat.reduceEqDiff, List.length_cons, List.length_nil, decide_true, decide_false, Bool.true_and, Bool.and_true, Bool.false_and, Bool.and_false, false_and, and_false, Bool.false_eq_true, Bool.true_eq_false, reduceCtorEq, eq_self, if_true, if_false, true_and, and_true, not_true_eq_false, not_false_eq_true, if_pos, if_neg, z_ite_not, false_or, or_false, true_or, or_true, SWs, swk_0, swk_1, b2, r_count, hbe3, hbe1]
          rw [← hI2]
      · obtain rfl | rfl : v = 0 ∨ v = 1 := by omega
        · simp (disch := first | omega | assumption | exact rfl) only [U_254_9, U_254_10, U_254_11, U_254_12, U_254_13, U_254_14, U_254_15, U_254_16, U_254_17, U_254_18, U_254_19, XX, QQ, WW, KK, QX, SHs, RRs, Nat.reduceAdd, Nat.reduceMul, Nat.reduceLeDiff, Nat.reduceEqDiff, List.length_cons, List.length_nil, decide_true, decide_false, Bool.true_and, Bool.and_true, Bool.false_and, Bool.and_false, false_and, and_false, Bool.false_eq_true, Bool.true_eq_false, reduceCtorEq, eq_self, if_true, if_false, true_and, and_true, not_true_eq_false, not_false_eq_true, if_pos, if_neg, z_ite_not, false_or, or_false, true_or, or_true, SWs, swk_0, swk_1, b2, r_count, hbe3, hbe1]
          rw [← hI2]
        · simp (disch := first | omega | assumption | exact rfl) only [U_254_9, U_254_10, U_254_11, U_254_12, U_254_13, U_254_14, U_254_15, U_254_16, U_254_17, U_254_18, U_254_19, XX, QQ, WW, KK, QX, SHs, RRs, Nat.reduceAdd, Nat.reduceMul, Nat.reduceLeDiff, Nat.reduceEqDiff, List.length_cons, List.length_nil, decide_true, decide_false, Bool.true_and, Bool.and_true, Bool.false_and, Bool.and_false, false_and, and_false, Bool.false_eq_true, Bool.true_eq_false, reduceCtorEq, eq_self, if_true, if_false, true_and, and_true, not_true_eq_false, not_false_eq_true, if_pos, if_neg, z_ite_not, false_or, or_false, true_or, or_true, SWs, swk_0, swk_1, b2, r_count, hbe3, hbe1]
          rw [← hI2]
    · intro k hk ih
      rw [U_254_7]
      rw [← cpy_s, ← cpy_s] at ih
      simp (disch := first | omega | assumption | exact rfl) only [U_254_8, XX, QQ, WW, KK, QX, SHs, RRs, Nat.reduceAdd, Nat.reduceMul, Nat.reduceLeDiff, Nat.reduceEqDiff, List.length_cons, List.length_nil, decide_true, decide_false, Bool.true_and, Bool.and_true, Bool.false_and, Bool.and_false, false_and, and_false, Bool.false_eq_true, Bool.true_eq_false, reduceCtorEq, eq_self, if_true, if_false, true_and, and_true, not_true_eq_false, not_false_eq_true, if_pos, if_neg, z_ite_not, false_or, or_false, true_or, or_true, SWs, swk_0, swk_1, vu_4]
      exact ih
  simp (disch := first | omega | assumption | exact rfl) only [U_254_0, XX, QQ, WW, KK, QX, SHs, RRs, Nat.reduceAdd, Nat.reduceMul, Nat.reduceLeDiff, Nat.reduceEqDiff, List.length_cons, List.length_nil, decide_true, decide_false, Bool.true_and, Bool.and_true, Bool.false_and, Bool.and_false, false_and, and_false, Bool.false_eq_true, Bool.true_eq_false, reduceCtorEq, eq_self, if_true, if_false, true_and, and_true, not_true_eq_false, not_false_eq_true, if_pos, if_neg, z_ite_not, false_or, or_false, true_or, or_true, SWs, swk_0, swk_1]
  refine lpI (n := 24) (P := fun k => Ev X d 254 1 [.ref 177, .int (nI (ins F1 B1)), .int (nI (ins F2 B2)), .int (nI k), .retAddr 0] [] (mk (va_up (va_up I 186 (va_cpy (I 199) (I 186) 0 0 k)) 187 (va_cpy (I 200) (I 187) 0 0 k)) J) (some (.int (nI (tell F1 B1 F2 B2 al be mks))), mk I2 J)) ?_ ?_ (fun L => by rw [cpy_0, cpy_0, vu_id, vu_id] at L; exact L)
  · rw [U_254_1]
    rw [hI1] at b1 hbe1
    by_cases z1 : pop (badS F1 B1 F2 B2 al mks) ≤ be
    · have q := last 1 (by decide) (if_pos z1)
      simp (disch := first | omega | assumption | exact rfl) only [U_254_3, U_254_4, U_254_5, XX, QQ, WW, KK, QX, SHs, RRs, Nat.reduceAdd, Nat.reduceMul, Nat.reduceLeDiff, Nat.reduceEqDiff, List.length_cons, List.length_nil, decide_true, decide_false, Bool.true_and, Bool.and_true, Bool.false_and, Bool.and_false, false_and, and_false, Bool.false_eq_true, Bool.true_eq_false, reduceCtorEq, eq_self, if_true, if_false, true_and, and_true, not_true_eq_false, not_false_eq_true, if_pos, if_neg, z_ite_not, false_or, or_false, true_or, or_true, SWs, swk_0, swk_1, b1, r_count, hbe, hbe1]
      rw [← hI1]; exact q
    · have q := last 0 (by decide) (if_neg z1)
      simp (disch := first | omega | assumption | exact rfl) only [U_254_3, U_254_4, U_254_5, XX, QQ, WW, KK, QX, SHs, RRs, Nat.reduceAdd, Nat.reduceMul, Nat.reduceLeDiff, Nat.reduceEqDiff, List.length_cons, List.length_nil, decide_true, decide_false, Bool.true_and, Bool.and_true, Bool.false_and, Bool.and_false, false_and, and_false, Bool.false_eq_true, Bool.true_eq_false, reduceCtorEq, eq_self, if_true, if_false, true_and, and_true, not_true_eq_false, not_false_eq_true, if_pos, if_neg, z_ite_not, false_or, or_false, true_or, or_true, SWs, swk_0, swk_1, b1, r_count, hbe, hbe1]
      rw [← hI1]; exact q
  · intro k hk ih
    rw [U_254_1]
    rw [← cpy_s, ← cpy_s] at ih
    simp (disch := first | omega | assumption | exact rfl) only [U_254_2, XX, QQ, WW, KK, QX, SHs, RRs, Nat.reduceAdd, Nat.reduceMul, Nat.reduceLeDiff, Nat.reduceEqDiff, List.length_cons, List.length_nil, decide_true, decide_false, Bool.true_and, Bool.and_true, Bool.false_and, Bool.and_false, false_and, and_false, Bool.false_eq_true, Bool.true_eq_false, reduceCtorEq, eq_self, if_true, if_false, true_and, and_true, not_true_eq_false, not_false_eq_true, if_pos, if_neg, z_ite_not, false_or, or_false, true_or, or_true, SWs, swk_0, swk_1, vu_4]
    exact ih
theorem b_older {X : Nat × (Nat → Int32)} {d : Nat} {I : Nat → Nat → Int32} {J : Nat → Nat → Int64} {u v w : Int32} (hd : 8 ≤ d) (h : Inv I J) : Both X d 146 255 [.int u, .int v, .int w] I J := by
  obtain ⟨FW, hw⟩ := Inv_wl h
  obtain ⟨_, al, be, yr, s1, s2, s3, s4, s5, s6, s7, s8, s9⟩ := Inv_sc h
  obtain ⟨mks, brk, hm⟩ := Inv_mk h
  rcases of_d u 5 6 rfl (by decide) with ⟨a, ha, rfl⟩ | ⟨o1, o2⟩
  · rcases of_d v 5 6 rfl (by decide) with ⟨b, hb, rfl⟩ | ⟨o1, o2⟩
    · rcases of_d w 1 2 rfl (by decide) with ⟨c, hc, rfl⟩ | ⟨o1, o2⟩
      · obtain ⟨d, rfl⟩ : ∃ d', d = d' + 1 := ⟨d - 1, by omega⟩
        obtain ⟨hG1, hB1, hR1⟩ := hw a ha
        obtain ⟨hG2, hB2, hR2⟩ := hw b hb
        have h24 := hG2.2.2.1
        have hm1 := fun k hk => (hm k hk).2.2.1
        have hm2 := fun k hk => (hm k hk).2.2.2.1
        have hm4 := fun k hk => (hm k hk).1
        obtain ⟨B1, e1⟩ : ∃ B1, B1 = I (14 + 4 * a + 1) := ⟨_, rfl⟩
        obtain ⟨B2, e2⟩ : ∃ B2, B2 = I (14 + 4 * b + 1) := ⟨_, rfl⟩
        rw [← e1] at hR1
        rw [← e2] at hR2
        obtain ⟨told, ht⟩ : ∃ told, told = tell (FW a) B1 (FW b) B2 al be mks := ⟨_, rfl⟩
        have told4 : told < 4 := by rw [ht]; exact tell_lt
        obtain ⟨Q, hQ⟩ : ∃ Q : Nat → Bool, Q = fun i => isB B2 i && decide (tell (FW a) B1 (FW b) (va_up B2 i (-1)) al be mks ≠ told) := ⟨_, rfl⟩
        -- the class
        obtain ⟨I1, c1, f1⟩ := c_tellOlder (X := X) (d := d) (by omega) hG1 hB1 hG2 hB2 (by omega) (by omega) s4 s1 hm1 hm4 s6 s2
        rw [← e1, ← e2, ← ht] at c1
        have cc : ∃ I2 J2, callF X (d + 1) 146 [.ref 0, .int (nI a), .int (nI b), .int (nI c)] (mk I J) = some (some (.int (if c = 0 then nI told else nI (fb_ct Q (pop (FW b))))), mk I2 J2) ∧ FC I I2 J J2 := by
          obtain rfl | rfl : c = 0 ∨ c = 1 := by omega
          · refine ⟨I1, J, ?_, fun k hk => f1 k (by omega), fun _ _ => rfl⟩
            refine callF_at (by omega) (by decide) (Nat.le_of_ble_eq_true rfl) (fun d' hd' => ?_)
            obtain rfl : d = d' := by omega
            show Ev X d 146 0 [.ref 0, .int (nI a), .int (nI b), .int (nI 0), .retAddr 0] [] (mk I J) _
            simp (disch := first | omega | assumption | exact rfl) only [U_146_0, U_146_1, U_146_2, U_146_4, U_146_5, U_146_7, XX, QQ, WW, KK, QX, SHs, RRs, Nat.reduceAdd, Nat.reduceMul, Nat.reduceLeDiff, Nat.reduceEqDiff, List.length_cons, List.length_nil, decide_true, decide_false, Bool.true_and, Bool.and_true, Bool.false_and, Bool.and_false, false_and, and_false, Bool.false_eq_true, Bool.true_eq_false, reduceCtorEq, eq_self, if_true, if_false, true_and, and_true, not_true_eq_false, not_false_eq_true, if_pos, if_neg, z_ite_not, false_or, or_false, true_or, or_true, SWs, swk_0, swk_1, s_isOf, WLs, c1]
          · obtain ⟨d, rfl⟩ : ∃ d', d = d' + 1 := ⟨d - 1, by omega⟩
            have A173 : WA (mk I1 J) 173 := ⟨rfl, rfl, rfl, rfl, rfl, rfl, rfl⟩
            have hG2' : WG (mk I1 J) (14 + 4 * b) (FW b) := WG_fr hG2 (fun k _ _ => f1 k (by omega)) rfl
            obtain ⟨I3, J3, k1, ⟨k2, k3, k4, k5⟩, k6, k7, k8⟩ := c_copyW (X := X) (d := d) (I := I1) (J := J) (W := 173) (V := 14 + 4 * b) (by omega) A173 hG2.1 (by omega)
            have hL : WG (mk I3 J3) 173 (FW b) := WG_tr A173 k6 k2 k4 k5 hG2'
            have hcL : I3 173 1 = nI (pop (FW b)) := hL.2.2.2.2.1
            have hbL : ∀ i, i < 24 → I3 174 i = B2 i := fun i hi => by rw [k3 i hi, f1 _ (by omega), e2]
            have hBL : WB (I3 174) (pop (FW b)) := WB_tr h24 hbL (by rw [e2]; exact hB2)
            have fr3 : ∀ k, k < 137 ∨ (139 < k ∧ k < 173) ∨ 176 < k → I3 k = I k := fun k hk => by rw [k7 k (by omega), f1 k (by omega)]
            have hG1' : ∀ I0, (∀ k, k < 137 → I0 k = I3 k) → WG (mk I0 J3) (14 + 4 * a) (FW a) := fun I0 h0 => WG_fr hG1 (fun k _ _ => by rw [h0 k (by omega), fr3 k (by omega)]) (k8 _ (by omega))
            have lp : ∃ I5, (∀ k, k < 137 ∨ 139 < k → I5 k = I3 k) ∧ Ev X d 148 1 [.ref 0, .ref (14 + 4 * a), .ref (14 + 4 * b), .int (nI told), .int (nI 0), .int (nI 0), .retAddr 0] [] (mk I3 J3) (some (.int (nI (fb_ct Q (pop (FW b))))), mk I5 J3) := by
              refine lpI (n := pop (FW b)) (P := fun i => ∀ I0, (∀ k, k < 137 ∨ 139 < k → I0 k = I3 k) → ∀ u6 : Value, ∃ I5, (∀ k, k < 137 ∨ 139 < k → I5 k = I3 k) ∧ Ev X d 148 1 [.ref 0, .ref (14 + 4 * a), .ref (14 + 4 * b), .int (nI told), .int (nI (fb_ct Q i)), .int (nI i), u6] [] (mk I0 J3) (some (.int (nI (fb_ct Q (pop (FW b))))), mk I5 J3)) ?_ ?_ (fun L => L I3 (fun _ _ => rfl) _)
              · intro I0 h0 u6
                refine ⟨I0, h0, ?_⟩
                have e := h0 173 (by omega)
                rw [U_148_1]
                simp (disch := first | omega | assumption | exact rfl) only [U_148_8, XX, QQ, WW, KK, QX, SHs, RRs, Nat.reduceAdd, Nat.reduceMul, Nat.reduceLeDiff, Nat.reduceEqDiff, List.length_cons, List.length_nil, decide_true, decide_false, Bool.true_and, Bool.and_true, Bool.false_and, Bool.and_false, false_and, and_false, Bool.false_eq_true, Bool.true_eq_false, reduceCtorEq, eq_self, if_true, if_false, true_and, and_true, not_true_eq_false, not_false_eq_true, if_pos, if_neg, z_ite_not, false_or, or_false, true_or, or_true, SWs, swk_0, swk_1, e, hcL]
              · intro i hi ih I0 h0 u6
                have e := h0 173 (by omega)
                have e4 := h0 174 (by omega)
                have bi := hbL i (by omega)
                rcases hBL.1 i hi with z | ⟨x, hx, z⟩
                · have q0 : Q i = false := by rw [hQ]; simp [isB, ← bi, z]
                  rw [fb_ct_succ, q0] at ih
                  obtain ⟨I5, g1, g2⟩ := ih I0 h0 (.int (-1))
                  refine ⟨I5, g1, ?_⟩
                  simp only [Bool.false_eq_true, if_false, Nat.add_zero] at g2
                  rw [U_148_1]
                  simp (disch := first | omega | assumption | exact rfl) only [U_148_2, U_148_3, U_148_7, XX, QQ, WW, KK, QX, SHs, RRs, Nat.reduceAdd, Nat.reduceMul, Nat.reduceLeDiff, Nat.reduceEqDiff, List.length_cons, List.length_nil, decide_true, decide_false, Bool.true_and, Bool.and_true, Bool.false_and, Bool.and_false, false_and, and_false, Bool.false_eq_true, Bool.true_eq_false, reduceCtorEq, eq_self, if_true, if_false, true_and, and_true, not_true_eq_false, not_false_eq_true, if_pos, if_neg, z_ite_not, false_or, or_false, true_or, or_true, SWs, swk_0, swk_1, e, hcL, e4, z]
                  exact g2
                · obtain ⟨I6, hI6⟩ : ∃ I6, I6 = va_up I0 174 (va_up (I3 174) i (-1)) := ⟨_, rfl⟩
                  have f6 : ∀ k, k ≠ 174 → I6 k = I0 k := fun k hk => by rw [hI6, vu_ne hk]
                  have e6 : I6 174 = va_up (I3 174) i (-1) := by rw [hI6, vu_eq]
                  have hL6 : WG (mk I6 J3) 173 (FW b) := WG_tr A173 rfl (by rw [f6 _ (by decide), e]) (fun i _ => by rw [f6 _ (by decide), h0 _ (by omega)]) (fun i _ => by rw [f6 _ (by decide), h0 _ (by omega)]) hL
                  have g1' := hG1' I6 (fun k hk => by rw [f6 k (by omega), h0 k (by omega)])
                  have s6' : ∀ k, k < 137 → I6 k = I k := fun k hk => by rw [f6 k (by omega), h0 k (by omega), fr3 k (by omega)]
                  obtain ⟨I7, t1, t2⟩ := c_tellOlder (X := X) (d := d) (I := I6) (J := J3) (by omega) g1' (by rw [s6' _ (by omega)]; exact hB1) hL6 (by rw [e6]; exact WB_del hBL) (by omega) (by omega) (by rw [s6' _ (by omega)]; exact s4) s1 (by rw [s6' _ (by omega)]; exact hm1) hm4 (by rw [s6' _ (by omega)]; exact s6) s2
                  rw [s6' (14 + 4 * a + 1) (by omega), ← e1, show 173 + 1 = 174 from rfl, e6, tell_cong (B1 := B1) (B2 := va_up B2 i (-1)) (fun _ _ => rfl) (fun j hj => by
                    by_cases y : j = i
                    · rw [y, vu_eq, vu_eq]
                    · rw [vu_ne y, vu_ne y, hbL j (by omega)])] at t1
                  obtain ⟨tt, htt⟩ : ∃ tt, tt = tell (FW a) B1 (FW b) (va_up B2 i (-1)) al be mks := ⟨_, rfl⟩
                  have tt4 : tt < 4 := by rw [htt]; exact tell_lt
                  rw [← htt] at t1
                  have e7 : I7 174 = va_up (I3 174) i (-1) := by rw [t2 _ (by omega), e6]
                  have e73 : I7 173 = I3 173 := by rw [t2 _ (by omega), f6 _ (by decide), e]
                  have back : va_up (va_up (I3 174) i (-1)) i (nI x) = I3 174 := by rw [vu_vu, ← z, vu_id]
                  obtain ⟨I5, g1, g2⟩ := ih (va_up I7 174 (I3 174)) (fun k hk => by
                    by_cases y : k = 174
                    · rw [y, vu_eq]
                    · rw [vu_ne y, t2 k hk, f6 k y, h0 k hk]) (.int (nI x))
                  refine ⟨I5, g1, ?_⟩
                  have ib : isB B2 i = true := by simp [isB, ← bi, z]; exact nI_ne (by omega)
                  have q0 : Q i = decide (tt ≠ told) := by rw [hQ]; simp only [ib, Bool.true_and, htt]
                  rw [fb_ct_succ, q0] at g2
                  rw [U_148_1]
                  rw [hI6] at t1
                  by_cases y : tt = told
                  · rw [if_neg (by simp [y]), Nat.add_zero] at g2
                    simp (disch := first | omega | assumption | exact rfl) only [U_148_2, U_148_4, U_148_6, U_148_7, XX, QQ, WW, KK, QX, SHs, RRs, Nat.reduceAdd, Nat.reduceMul, Nat.reduceLeDiff, Nat.reduceEqDiff, List.length_cons, List.length_nil, decide_true, decide_false, Bool.true_and, Bool.and_true, Bool.false_and, Bool.and_false, false_and, and_false, Bool.false_eq_true, Bool.true_eq_false, reduceCtorEq, eq_self, if_true, if_false, true_and, and_true, not_true_eq_false, not_false_eq_true, if_pos, if_neg, z_ite_not, false_or, or_false, true_or, or_true, SWs, swk_0, swk_1, e, hcL, e4, z, t1, e7, back, y]
                    exact g2
                  · rw [if_pos (by simp [y])] at g2
                    simp (disch := first | omega | assumption | exact rfl) only [U_148_2, U_148_4, U_148_5, U_148_6, U_148_7, XX, QQ, WW, KK, QX, SHs, RRs, Nat.reduceAdd, Nat.reduceMul, Nat.reduceLeDiff, Nat.reduceEqDiff, List.length_cons, List.length_nil, decide_true, decide_false, Bool.true_and, Bool.and_true, Bool.false_and, Bool.and_false, false_and, and_false, Bool.false_eq_true, Bool.true_eq_false, reduceCtorEq, eq_self, if_true, if_false, true_and, and_true, not_true_eq_false, not_false_eq_true, if_pos, if_neg, z_ite_not, false_or, or_false, true_or, or_true, SWs, swk_0, swk_1, e, hcL, e4, z, t1, e7, back, y]
                    exact g2
            obtain ⟨I5, g1, g2⟩ := lp
            have ct : callF X (d + 1) 148 [.ref 0, .ref (14 + 4 * a), .ref (14 + 4 * b), .int (nI told)] (mk I1 J) = some (some (.int (nI (fb_ct Q (pop (FW b))))), mk I5 J3) := by
              refine callF_at (by omega) (by decide) (Nat.le_of_ble_eq_true rfl) (fun d' hd' => ?_)
              obtain rfl : d = d' := by omega
              show Ev X d 148 0 [.ref 0, .ref (14 + 4 * a), .ref (14 + 4 * b), .int (nI told), .retAddr 0, .retAddr 0, .retAddr 0] [] (mk I1 J) _
              simp (disch := first | omega | assumption | exact rfl) only [U_148_0, XX, QQ, WW, KK, QX, SHs, RRs, Nat.reduceAdd, Nat.reduceMul, Nat.reduceLeDiff, Nat.reduceEqDiff, List.length_cons, List.length_nil, decide_true, decide_false, Bool.true_and, Bool.and_true, Bool.false_and, Bool.and_false, false_and, and_false, Bool.false_eq_true, Bool.true_eq_false, reduceCtorEq, eq_self, if_true, if_false, true_and, and_true, not_true_eq_false, not_false_eq_true, if_pos, if_neg, z_ite_not, false_or, or_false, true_or, or_true, SWs, swk_0, swk_1, k1]
              exact g2
            refine ⟨I5, J3, ?_, fun k hk => by rw [g1 k (by omega), fr3 k (by omega)], fun k hk => k8 k (by omega)⟩
            refine callF_at (by omega) (by decide) (Nat.le_of_ble_eq_true rfl) (fun d' hd' => ?_)
            obtain rfl : d + 1 = d' := by omega
            show Ev X (d + 1) 146 0 [.ref 0, .int (nI a), .int (nI b), .int (nI 1), .retAddr 0] [] (mk I J) _
            simp (disch := first | omega | assumption | exact rfl) only [U_146_0, U_146_1, U_146_2, U_146_4, U_146_6, U_146_7, XX, QQ, WW, KK, QX, SHs, RRs, Nat.reduceAdd, Nat.reduceMul, Nat.reduceLeDiff, Nat.reduceEqDiff, List.length_cons, List.length_nil, decide_true, decide_false, Bool.true_and, Bool.and_true, Bool.false_and, Bool.and_false, false_and, and_false, Bool.false_eq_true, Bool.true_eq_false, reduceCtorEq, eq_self, if_true, if_false, true_and, and_true, not_true_eq_false, not_false_eq_true, if_pos, if_neg, z_ite_not, false_or, or_false, true_or, or_true, SWs, swk_0, swk_1, s_isOf, WLs, c1, ct]
        -- the reference
        refine Both_q (if c = 0 then nI told else nI (fb_ct Q (pop (FW b)))) h cc (fun I2 J2 _ hF => ?_)
        have e178 : I2 178 = I 178 := hF.1 _ (by omega)
        have l1 := r_lays (X := X) (d := d) (I := I2) (J := J2) (N := 199) (by omega) ha (by rw [e178]; exact hR1) (by rw [e1]; exact hB1) rfl (by decide)
        obtain ⟨I3, hI3⟩ : ∃ I3, I3 = va_up I2 199 (gN (FW a) B1 (I2 199) (pop (FW a))) := ⟨_, rfl⟩
        rw [← hI3] at l1
        have l2 := r_lays (X := X) (d := d) (I := I3) (J := J2) (N := 200) (by omega) hb (by rw [hI3, vu_ne (by decide), e178]; exact hR2) (by rw [e2]; exact hB2) rfl (by decide)
        obtain ⟨I4, hI4⟩ : ∃ I4, I4 = va_up I3 200 (gN (FW b) B2 (I3 200) (pop (FW b))) := ⟨_, rfl⟩
        rw [← hI4] at l2
        have f4 : ∀ k, k ≠ 199 → k ≠ 200 → I4 k = I2 k := fun k k1 k2 => by rw [hI4, vu_ne k2, hI3, vu_ne k1]
        have e4 : I4 178 = I 178 := by rw [f4 _ (by decide) (by decide), e178]
        have h199 : ∀ x, x < 24 → I4 199 x = nI (nr (FW a) B1 x) := fun x hx => by rw [hI4, vu_ne (by decide), hI3, vu_eq]; exact if_pos hx
        have h200 : ∀ x, x < 24 → I4 200 x = nI (nr (FW b) B2 x) := fun x hx => by rw [hI4, vu_eq]; exact if_pos hx
        obtain ⟨I5, o1, o2, o3⟩ := r_olderOf (X := X) (d := d) (J := J2) (by omega) h199 h200 (by rw [e4]; exact s5) s1 (by rw [e4]; exact hm2) hm4 (by rw [e4]; exact s7) s2
        rw [← ht] at o1
        have fr5 : FR I2 I5 := FR_of (fun k k1 k2 => by rw [o2 k k2 (by omega) (by omega), f4 k (by omega) (by omega)]) (fun k hk => by rw [o3 k (by omega) (by omega), f4 _ (by decide) (by decide)])
        have e5 : I5 178 = I 178 := by rw [o2 _ (by decide) (by decide) (by decide), e4]
        obtain rfl | rfl : c = 0 ∨ c = 1 := by omega
        · refine ⟨I5, ?_, fr5⟩
          refine callF_at (by omega) (by decide) (Nat.le_of_ble_eq_true rfl) (fun d' hd' => ?_)
          obtain rfl : d = d' := by omega
          show Ev X d 255 0 [.ref 177, .int (nI a), .int (nI b), .int (nI 0), .retAddr 0, .retAddr 0, .retAddr 0, .retAddr 0, .retAddr 0, .retAddr 0] [] (mk I2 J2) _
          simp (disch := first | omega | assumption | exact rfl) only [U_255_0, U_255_1, U_255_2, U_255_4, U_255_5, XX, QQ, WW, KK, QX, SHs, RRs, Nat.reduceAdd, Nat.reduceMul, Nat.reduceLeDiff, Nat.reduceEqDiff, List.length_cons, List.length_nil, decide_true, decide_false, Bool.true_and, Bool.and_true, Bool.false_and, Bool.and_false, false_and, and_false, Bool.false_eq_true, Bool.true_eq_false, reduceCtorEq, eq_self, if_true, if_false, true_and, and_true, not_true_eq_false, not_false_eq_true, if_pos, if_neg, z_ite_not, false_or, or_false, true_or, or_true, SWs, swk_0, swk_1, r_isWall, r_isIn, l1, l2, o1]
        · have lp : ∃ I6, FR I2 I6 ∧ Ev X d 255 7 [.ref 177, .int (nI a), .int (nI b), .int (nI 1), .int (nI (ins (FW a) B1)), .int (nI (ins (FW b) B2)), .int (nI told), .int (nI 0), .int (nI 0), .retAddr 0] [] (mk I5 J2) (some (.int (nI (fb_ct Q (pop (FW b))))), mk I6 J2) := by
            refine lpI (n := pop (FW b)) (P := fun i => ∀ I0, FR I2 I0 → I0 178 = I 178 → (∀ x, x < 24 → I0 199 x = nI (nr (FW a) B1 x)) → ∀ u5 u9 : Value, ∃ I6, FR I2 I6 ∧ Ev X d 255 7 [.ref 177, .int (nI a), .int (nI b), .int (nI 1), .int (nI (ins (FW a) B1)), u5, .int (nI told), .int (nI (fb_ct Q i)), .int (nI i), u9] [] (mk I0 J2) (some (.int (nI (fb_ct Q (pop (FW b))))), mk I6 J2)) ?_ ?_ (fun L => L I5 fr5 e5 (fun x hx => by rw [o2 _ (by decide) (by decide) (by decide)]; exact h199 x hx) _ _)
            · intro I0 hF0 h0 h199' u5 u9
              refine ⟨I0, hF0, ?_⟩
              have g := hR2.2.1
              rw [← h0] at g
              rw [U_255_7]
              simp (disch := first | omega | assumption | exact rfl) only [U_255_15, XX, QQ, WW, KK, QX, SHs, RRs, Nat.reduceAdd, Nat.reduceMul, Nat.reduceLeDiff, Nat.reduceEqDiff, List.length_cons, List.length_nil, decide_true, decide_false, Bool.true_and, Bool.and_true, Bool.false_and, Bool.and_false, false_and, and_false, Bool.false_eq_true, Bool.true_eq_false, reduceCtorEq, eq_self, if_true, if_false, true_and, and_true, not_true_eq_false, not_false_eq_true, if_pos, if_neg, z_ite_not, false_or, or_false, true_or, or_true, SWs, swk_0, swk_1, g]
            · intro i hi ih I0 hF0 h0 h199' u5 u9
              have g := hR2.2.1
              have gb := hR2.2.2.2 i (by omega)
              rw [← h0] at g gb
              have hB2' : WB B2 (pop (FW b)) := by rw [e2]; exact hB2
              rcases hB2'.1 i hi with z | ⟨x, hx, z⟩
              · have q0 : Q i = false := by rw [hQ]; simp [isB, z]
                rw [fb_ct_succ, q0] at ih
                obtain ⟨I6, g1, g2⟩ := ih I0 hF0 h0 h199' u5 (.int (-1))
                refine ⟨I6, g1, ?_⟩
                simp only [Bool.false_eq_true, if_false, Nat.add_zero] at g2
                rw [z] at gb
                rw [U_255_7]
                simp (disch := first | omega | assumption | exact rfl) only [U_255_8, U_255_9, U_255_14, XX, QQ, WW, KK, QX, SHs, RRs, Nat.reduceAdd, Nat.reduceMul, Nat.reduceLeDiff, Nat.reduceEqDiff, List.length_cons, List.length_nil, decide_true, decide_false, Bool.true_and, Bool.and_true, Bool.false_and, Bool.and_false, false_and, and_false, Bool.false_eq_true, Bool.true_eq_false, reduceCtorEq, eq_self, if_true, if_false, true_and, and_true, not_true_eq_false, not_false_eq_true, if_pos, if_neg, z_ite_not, false_or, or_false, true_or, or_true, SWs, swk_0, swk_1, g, r_brick, gb]
                exact g2
              · rw [z] at gb
                obtain ⟨I7, hI7⟩ : ∃ I7, I7 = va_up I0 178 (va_up (I0 178) (668 + 24 * b + i) (-1)) := ⟨_, rfl⟩
                have f7 : ∀ k, k ≠ 178 → I7 k = I0 k := fun k hk => by rw [hI7, vu_ne hk]
                have hR7 : RWl (I7 178) b (FW b) (va_up B2 i (-1)) := by
                  rw [hI7, vu_eq, h0]
                  obtain ⟨y1, y2, y3, y4⟩ := hR2
                  refine ⟨y1, ?_, fun j hj => ⟨?_, ?_⟩, fun j hj => ?_⟩
                  · rw [vu_ne (by omega)]; exact y2
                  · rw [vu_ne (by omega)]; exact (y3 j hj).1
                  · rw [vu_ne (by omega)]; exact (y3 j hj).2
                  · by_cases y : j = i
                    · rw [y, vu_eq, vu_eq]
                    · rw [vu_ne (by omega), vu_ne y]; exact y4 j hj
                have l3 := r_lays (X := X) (d := d) (I := I7) (J := J2) (N := 200) (by omega) hb hR7 (WB_del hB2') rfl (by decide)
                obtain ⟨I8, hI8⟩ : ∃ I8, I8 = va_up I7 200 (gN (FW b) (va_up B2 i (-1)) (I7 200) (pop (FW b))) := ⟨_, rfl⟩
                rw [← hI8] at l3
                have f8 : ∀ k, k ≠ 178 → k ≠ 200 → I8 k = I0 k := fun k k1 k2 => by rw [hI8, vu_ne k2, f7 k k1]
                have e8 : I8 178 = va_up (I0 178) (668 + 24 * b + i) (-1) := by rw [hI8, vu_ne (by decide), hI7, vu_eq]
                have sm : ∀ j, j < 370 → I8 178 j = I 178 j := fun j hj => by rw [e8, vu_ne (by omega), h0]
                obtain ⟨I9, q1, q2, q3⟩ := r_olderOf (X := X) (d := d) (I := I8) (J := J2) (F1 := FW a) (B1 := B1) (F2 := FW b) (B2 := va_up B2 i (-1)) (al := al) (be := be) (mks := mks) (by omega) (fun x hx => by rw [f8 _ (by decide) (by decide)]; exact h199' x hx) (fun x hx => by rw [hI8, vu_eq]; exact if_pos hx) (by rw [sm _ (by decide)]; exact s5) s1 (fun k hk => by rw [sm _ (by omega)]; exact hm2 k hk) hm4 (by rw [sm _ (by decide)]; exact s7) s2
                obtain ⟨tt, htt⟩ : ∃ tt, tt = tell (FW a) B1 (FW b) (va_up B2 i (-1)) al be mks := ⟨_, rfl⟩
                have tt4 : tt < 4 := by rw [htt]; exact tell_lt
                rw [← htt] at q1
                have e9 : I9 178 = va_up (I0 178) (668 + 24 * b + i) (-1) := by rw [q2 _ (by decide) (by decide) (by decide), e8]
                have back : va_up (va_up (I0 178) (668 + 24 * b + i) (-1)) (668 + 24 * b + i) (nI x) = I0 178 := by rw [vu_vu, ← gb, vu_id]
                have ib : isB B2 i = true := by simp [isB, z]; exact nI_ne (by omega)
                have q0 : Q i = decide (tt ≠ told) := by rw [hQ]; simp only [ib, Bool.true_and, htt]
                rw [fb_ct_succ, q0] at ih
                obtain ⟨I6, g1, g2⟩ := ih (va_up I9 178 (I0 178)) (by
                  obtain ⟨y1, y2, y3, y4, y5⟩ := hF0
                  refine ⟨fun k hk => ?_, ?_, ?_, ?_, fun k hk => ?_⟩
                  · rw [vu_ne (by omega), q2 k (by omega) (by omega) (by omega), f8 k (by omega) (by omega), y1 k hk]
                  · rw [vu_eq, y2]
                  · rw [vu_ne (by decide), q2 _ (by decide) (by decide) (by decide), f8 _ (by decide) (by decide), y3]
                  · rw [vu_ne (by decide), q2 _ (by decide) (by decide) (by decide), f8 _ (by decide) (by decide), y4]
                  · rw [vu_ne (by decide), q3 k (by omega) (by omega), f8 _ (by decide) (by decide), y5 k hk]) (by rw [vu_eq, h0]) (fun x hx => by rw [vu_ne (by decide), q2 _ (by decide) (by decide) (by decide), f8 _ (by decide) (by decide)]; exact h199' x hx) (.int (nI (ins (FW b) (va_up B2 i (-1))))) (.int (nI x))
                refine ⟨I6, g1, ?_⟩
                have ct := fb_ct_le Q i
                rw [U_255_7]
                rw [hI7] at l3
                by_cases y : tt = told
                · rw [if_neg (by simp [y]), Nat.add_zero] at g2
                  simp (disch := first | omega | assumption | exact rfl) only [U_255_8, U_255_10, U_255_11, U_255_12, U_255_13, U_255_14, XX, QQ, WW, KK, QX, SHs, RRs, Nat.reduceAdd, Nat.reduceMul, Nat.reduceLeDiff, Nat.reduceEqDiff, List.length_cons, List.length_nil, decide_true, decide_false, Bool.true_and, Bool.and_true, Bool.false_and, Bool.and_false, false_and, and_false, Bool.false_eq_true, Bool.true_eq_false, reduceCtorEq, eq_self, if_true, if_false, true_and, and_true, not_true_eq_false, not_false_eq_true, if_pos, if_neg, z_ite_not, false_or, or_false, true_or, or_true, SWs, swk_0, swk_1, g, r_brick, gb, l3, q1, y, e9, back, Nat.add_zero]
                  exact g2
                · rw [if_pos (by simp [y])] at g2
                  simp (disch := first | omega | assumption | exact rfl) only [U_255_8, U_255_10, U_255_11, U_255_12, U_255_13, U_255_14, XX, QQ, WW, KK, QX, SHs, RRs, Nat.reduceAdd, Nat.reduceMul, Nat.reduceLeDiff, Nat.reduceEqDiff, List.length_cons, List.length_nil, decide_true, decide_false, Bool.true_and, Bool.and_true, Bool.false_and, Bool.and_false, false_and, and_false, Bool.false_eq_true, Bool.true_eq_false, reduceCtorEq, eq_self, if_true, if_false, true_and, and_true, not_true_eq_false, not_false_eq_true, if_pos, if_neg, z_ite_not, false_or, or_false, true_or, or_true, SWs, swk_0, swk_1, g, r_brick, gb, l3, q1, y, e9, back]
                  exact g2
          obtain ⟨I6, g1, g2⟩ := lp
          refine ⟨I6, ?_, g1⟩
          refine callF_at (by omega) (by decide) (Nat.le_of_ble_eq_true rfl) (fun d' hd' => ?_)
          obtain rfl : d = d' := by omega
          show Ev X d 255 0 [.ref 177, .int (nI a), .int (nI b), .int (nI 1), .retAddr 0, .retAddr 0, .retAddr 0, .retAddr 0, .retAddr 0, .retAddr 0] [] (mk I2 J2) _
          simp (disch := first | omega | assumption | exact rfl) only [U_255_0, U_255_1, U_255_2, U_255_4, U_255_6, XX, QQ, WW, KK, QX, SHs, RRs, Nat.reduceAdd, Nat.reduceMul, Nat.reduceLeDiff, Nat.reduceEqDiff, List.length_cons, List.length_nil, decide_true, decide_false, Bool.true_and, Bool.and_true, Bool.false_and, Bool.and_false, false_and, and_false, Bool.false_eq_true, Bool.true_eq_false, reduceCtorEq, eq_self, if_true, if_false, true_and, and_true, not_true_eq_false, not_false_eq_true, if_pos, if_neg, z_ite_not, false_or, or_false, true_or, or_true, SWs, swk_0, swk_1, r_isWall, r_isIn, l1, l2, o1]
          exact g2
      · refine Both_0 (-1) h ?_ ?_
        · refine callF_at (by omega) (by decide) (Nat.le_of_ble_eq_true rfl) (fun d _ => ?_)
          show Ev X d 146 0 [.ref 0, .int (nI a), .int (nI b), .int w, .retAddr 0] [] ( mk I J) _
          simp (disch := first | omega | assumption | exact rfl) only [U_146_0, U_146_1, U_146_2, U_146_3, XX, QQ, WW, KK, QX, SHs, RRs, Nat.reduceAdd, Nat.reduceMul, Nat.reduceLeDiff, Nat.reduceEqDiff, List.length_cons, List.length_nil, decide_true, decide_false, Bool.true_and, Bool.and_true, Bool.false_and, Bool.and_false, false_and, and_false, Bool.false_eq_true, Bool.true_eq_false, reduceCtorEq, eq_self, if_true, if_false, true_and, and_true, not_true_eq_false, not_false_eq_true, if_pos, if_neg, z_ite_not, false_or, or_false, true_or, or_true, SWs, swk_0, swk_1, s_isOf, o1]
        · refine callF_at (by omega) (by decide) (Nat.le_of_ble_eq_true rfl) (fun d _ => ?_)
          show Ev X d 255 0 [.ref 177, .int (nI a), .int (nI b), .int w, .retAddr 0, .retAddr 0, .retAddr 0, .retAddr 0, .retAddr 0, .retAddr 0] [] ( mk I J) _
          simp (disch := first | omega | assumption | exact rfl) only [U_255_0, U_255_1, U_255_2, U_255_3, XX, QQ, WW, KK, QX, SHs, RRs, Nat.reduceAdd, Nat.reduceMul, Nat.reduceLeDiff, Nat.reduceEqDiff, List.length_cons, List.length_nil, decide_true, decide_false, Bool.true_and, Bool.and_true, Bool.false_and, Bool.and_false, false_and, and_false, Bool.false_eq_true, Bool.true_eq_false, reduceCtorEq, eq_self, if_true, if_false, true_and, and_true, not_true_eq_false, not_false_eq_true, if_pos, if_neg, z_ite_not, false_or, or_false, true_or, or_true, SWs, swk_0, swk_1, r_isWall, r_isIn, o2]
    · refine Both_0 (-1) h ?_ ?_
      · refine callF_at (by omega) (by decide) (Nat.le_of_ble_eq_true rfl) (fun d _ => ?_)
        show Ev X d 146 0 [.ref 0, .int (nI a), .int v, .int w, .retAddr 0] [] ( mk I J) _
        simp (disch := first | omega | assumption | exact rfl) only [U_146_0, U_146_1, U_146_2, U_146_3, XX, QQ, WW, KK, QX, SHs, RRs, Nat.reduceAdd, Nat.reduceMul, Nat.reduceLeDiff, Nat.reduceEqDiff, List.length_cons, List.length_nil, decide_true, decide_false, Bool.true_and, Bool.and_true, Bool.false_and, Bool.and_false, false_and, and_false, Bool.false_eq_true, Bool.true_eq_false, reduceCtorEq, eq_self, if_true, if_false, true_and, and_true, not_true_eq_false, not_false_eq_true, if_pos, if_neg, z_ite_not, false_or, or_false, true_or, or_true, SWs, swk_0, swk_1, s_isOf, o1]
      · refine callF_at (by omega) (by decide) (Nat.le_of_ble_eq_true rfl) (fun d _ => ?_)
        show Ev X d 255 0 [.ref 177, .int (nI a), .int v, .int w, .retAddr 0, .retAddr 0, .retAddr 0, .retAddr 0, .retAddr 0, .retAddr 0] [] ( mk I J) _
        simp (disch := first | omega | assumption | exact rfl) only [U_255_0, U_255_1, U_255_2, U_255_3, XX, QQ, WW, KK, QX, SHs, RRs, Nat.reduceAdd, Nat.reduceMul, Nat.reduceLeDiff, Nat.reduceEqDiff, List.length_cons, List.length_nil, decide_true, decide_false, Bool.true_and, Bool.and_true, Bool.false_and, Bool.and_false, false_and, and_false, Bool.false_eq_true, Bool.true_eq_false, reduceCtorEq, eq_self, if_true, if_false, true_and, and_true, not_true_eq_false, not_false_eq_true, if_pos, if_neg, z_ite_not, false_or, or_false, true_or, or_true, SWs, swk_0, swk_1, r_isWall, r_isIn, o2]
  · refine Both_0 (-1) h ?_ ?_
    · refine callF_at (by omega) (by decide) (Nat.le_of_ble_eq_true rfl) (fun d _ => ?_)
      show Ev X d 146 0 [.ref 0, .int u, .int v, .int w, .retAddr 0] [] ( mk I J) _
      simp (disch := first | omega | assumption | exact rfl) only [U_146_0, U_146_1, U_146_2, U_146_3, XX, QQ, WW, KK, QX, SHs, RRs, Nat.reduceAdd, Nat.reduceMul, Nat.reduceLeDiff, Nat.reduceEqDiff, List.length_cons, List.length_nil, decide_true, decide_false, Bool.true_and, Bool.and_true, Bool.false_and, Bool.and_false, false_and, and_false, Bool.false_eq_true, Bool.true_eq_false, reduceCtorEq, eq_self, if_true, if_false, true_and, and_true, not_true_eq_false, not_false_eq_true, if_pos, if_neg, z_ite_not, false_or, or_false, true_or, or_true, SWs, swk_0, swk_1, s_isOf, o1]
    · refine callF_at (by omega) (by decide) (Nat.le_of_ble_eq_true rfl) (fun d _ => ?_)
      show Ev X d 255 0 [.ref 177, .int u, .int v, .int w, .retAddr 0, .retAddr 0, .retAddr 0, .retAddr 0, .retAddr 0, .retAddr 0] [] ( mk I J) _
      simp (disch := first | omega | assumption | exact rfl) only [U_255_0, U_255_1, U_255_2, U_255_3, XX, QQ, WW, KK, QX, SHs, RRs, Nat.reduceAdd, Nat.reduceMul, Nat.reduceLeDiff, Nat.reduceEqDiff, List.length_cons, List.length_nil, decide_true, decide_false, Bool.true_and, Bool.and_true, Bool.false_and, Bool.and_false, false_and, and_false, Bool.false_eq_true, Bool.true_eq_false, reduceCtorEq, eq_self, if_true, if_false, true_and, and_true, not_true_eq_false, not_false_eq_true, if_pos, if_neg, z_ite_not, false_or, or_false, true_or, or_true, SWs, swk_0, swk_1, r_isWall, r_isIn, o2]
