/-! ===== a rule's line ===== -/
theorem evL_ok {vs : Nat → Int32} : ∀ (l : List (Nat × Nat)) (K K' : List Bool) (S : List Int32), ak l K = some K' → okK K S → okK K' (evL vs l S)
  | [], K, K', S, h, hS => by
    rw [ak] at h
    rw [← Option.some.inj h]; exact hS
  | q :: l, K, K', S, h, hS => by
    rw [ak] at h
    cases h1 : ak1 q K with
    | none => rw [h1] at h; cases h
    | some K1 => rw [h1] at h; exact evL_ok l K1 K' _ h (okK_s h1 hS)
theorem evL_b {vs : Nat → Int32} {l : List (Nat × Nat)} (ha : ak l [] = some [true]) : ∃ b : Bool, evL vs l [] = [bI b] := by
  obtain ⟨x, S1, e, hb, h2⟩ := okK_c (evL_ok (vs := vs) l [] [true] [] ha trivial)
  obtain ⟨b, rfl⟩ := hb rfl
  have : S1 = [] := List.eq_nil_of_length_eq_zero (okK_len h2)
  rw [e, this]
  exact ⟨b, rfl⟩
def RuL (I : Nat → Nat → Int32) (R r k i : Nat) (seg : List (Nat × Nat)) : Prop := ∃ (way by_ s e f t : Nat), way < 7 ∧ I (R + 1) i = nI way ∧ I r (4500 + 16 * k + i) = nI way ∧ (way = 1 → by_ ≤ 9999 ∧ I (R + 2) i = nI by_ ∧ I r (4550 + 16 * k + i) = nI by_) ∧ I (R + 3) i = nI s ∧ I (R + 4) i = nI e ∧ e ≤ 400 ∧ I r (4600 + 16 * k + i) = nI f ∧ I r (4650 + 16 * k + i) = nI t ∧ t ≤ 409 ∧ e = s + (segC seg).length ∧ t = f + seg.length ∧ segAt (I (R + 5)) s (segC seg) ∧ stpAt (I r) (4700 + 820 * k) f seg ∧ (seg = [] ∨ ak seg [] = some [true])
theorem WRu_sg {I : Nat → Nat → Int32} {o r k : Nat} (h : WRu I o r) (hk : k < 3) : ∃ (L : Nat) (sg : Nat → List (Nat × Nat)), L ≤ 16 ∧ I (38 + 8 * k + o) 0 = nI L ∧ I r (4490 + k) = nI L ∧ ∀ i, i < L → RuL I (38 + 8 * k + o) r k i (sg i) := by
  obtain ⟨L, h1, h2, h3, h4⟩ := h k hk
  have : ∀ i, ∃ seg, i < L → RuL I (38 + 8 * k + o) r k i seg := fun i => by
    by_cases z : i < L
    · obtain ⟨way, by_, s, e, f, t, seg, q⟩ := h4 i z
      exact ⟨seg, fun _ => ⟨way, by_, s, e, f, t, q⟩⟩
    · exact ⟨[], fun y => absurd y z⟩
  obtain ⟨sg, hsg⟩ := Classical.skolem.mp this
  exact ⟨L, sg, h1, h2, h3, hsg⟩
/-- the first of n from i on that holds -/
def fkO (off : Nat) (c : Nat → Bool) : Nat → Nat → Int32
  | 0, _ => -1
  | n + 1, i => if c i = true then nI (off + i) else fkO off c n (i + 1)
noncomputable def lnY (sg : Nat → List (Nat × Nat)) (vs : Nat → Int32) (i : Nat) : Bool := cd (sg i = [] ∨ evL vs (sg i) [] = [bI true])
/-- only the rule's stack has changed -/
def FrR (R : Nat) (I I' : Nat → Nat → Int32) : Prop := (∀ a, a ≠ R → a ≠ R + 7 → I' a = I a) ∧ (∀ k, k ≠ 9 → I' R k = I R k)
theorem FrR_p {R : Nat} {I : Nat → Nat → Int32} {f : Nat → Int32} {m : Nat} : FrR R I (pS I R f m) := ⟨fun a h1 h2 => pS_fr h1 h2, fun k hk => by unfold pS; rw [vu_eq, vu_ne hk]⟩
theorem FrR_t {R : Nat} {I I' I'' : Nat → Nat → Int32} (h : FrR R I I') (h2 : FrR R I' I'') : FrR R I I'' := ⟨fun a x y => (h2.1 a x y).trans (h.1 a x y), fun k hk => (h2.2 k hk).trans (h.2 k hk)⟩
theorem segC_0 {l : List (Nat × Nat)} (h : (segC l).length = 0) : l = [] := by
  match l, h with
  | [], _ => rfl
  | q :: l, h =>
    rw [segC, List.length_append] at h
    have : 0 < (stC q).length := by
      unfold stC
      split
      · exact Nat.succ_pos _
      · split <;> exact Nat.succ_pos _
    omega
section LNE
variable {X : Nat × (Nat → Int32)} {d : Nat} {I : Nat → Nat → Int32} {J : Nat → Nat → Int64} {k L r : Nat} {sg : Nat → List (Nat × Nat)} {vs : Nat → Int32}
theorem c_lineFor {R : Nat} {x1 x2 x3 x4 x5 : Int32} (hd : 5 ≤ d) (hR : RLA R) (hL16 : L ≤ 16) (h0 : I R 0 = nI L) (hs : ∀ i, i < L → RuL I R r k i (sg i)) (hv : vs 1 = x1 ∧ vs 2 = x2 ∧ vs 3 = x3 ∧ vs 4 = x4 ∧ vs 5 = x5) :
    ∃ I', callF X d 73 [.ref R, .int x1, .int x2, .int x3, .int x4, .int x5] (mk I J) = some (some (.int (fkO 0 (lnY sg vs) L 0)), mk I' J) ∧ (∀ a, a ≠ R → a ≠ R + 6 → a ≠ R + 7 → I' a = I a) ∧ (∀ j, j ≠ 9 → I' R j = I R j) := by
  obtain ⟨d, rfl⟩ : ∃ d', d = d' + 1 := ⟨d - 1, by omega⟩
  obtain ⟨g, eg⟩ : ∃ g, g = va_up (va_up (va_up (va_up (va_up (I (R + 6)) 0 x1) 1 x2) 2 x3) 3 x4) 4 x5 := ⟨_, rfl⟩
  obtain ⟨Ig, eIg⟩ : ∃ Ig, Ig = va_up I (R + 6) g := ⟨_, rfl⟩
  have fg : ∀ a, a ≠ R + 6 → Ig a = I a := fun a ha => by rw [eIg, vu_ne ha]
  have gv : ∀ o, o < 5 → Ig (R + 6) o = vs (o + 1) := fun o ho => by
    rw [eIg, vu_eq, eg]
    obtain ⟨v1, v2, v3, v4, v5⟩ := hv
    obtain rfl | rfl | rfl | rfl | rfl : o = 0 ∨ o = 1 ∨ o = 2 ∨ o = 3 ∨ o = 4 := by omega
    · exact v1.symm
    · exact v2.symm
    · exact v3.symm
    · exact v4.symm
    · exact v5.symm
  have lp : ∃ I', Ev X d 73 1 [.ref R, .int x1, .int x2, .int x3, .int x4, .int x5, .int (nI 0)] [] (mk Ig J) (some (.int (fkO 0 (lnY sg vs) L 0)), mk I' J) ∧ FrR R Ig I' := by
    refine lpI (n := L) (P := fun i => ∀ I1, FrR R Ig I1 → ∃ I', Ev X d 73 1 [.ref R, .int x1, .int x2, .int x3, .int x4, .int x5, .int (nI i)] [] (mk I1 J) (some (.int (fkO 0 (lnY sg vs) (L - i) i)), mk I' J) ∧ FrR R Ig I') ?_ ?_ (fun Q => Q Ig ⟨fun _ _ _ => rfl, fun _ _ => rfl⟩)
    · intro I1 hI1
      refine ⟨I1, ?_, hI1⟩
      have z0 : I1 R 0 = nI L := by rw [hI1.2 0 (by decide), fg _ (by omega)]; exact h0
      obtain ⟨r1, _⟩ := hR
      rw [show L - L = 0 by omega, fkO, U_73_1]
      simp (disch := first | omega | assumption | exact rfl) only [U_73_6, XX, QQ, WW, KK, QX, SHs, RRs, Nat.reduceAdd, Nat.reduceMul, Nat.reduceLeDiff, Nat.reduceEqDiff, List.length_cons, List.length_nil, decide_true, decide_false, Bool.true_and, Bool.and_true, Bool.false_and, Bool.and_false, false_and, and_false, Bool.false_eq_true, Bool.true_eq_false, reduceCtorEq, eq_self, if_true, if_false, true_and, and_true, not_true_eq_false, not_false_eq_true, if_pos, if_neg, z_ite_not, false_or, or_false, true_or, or_true, SWs, swk_0, swk_1, r1, z0]
    · intro i hi ih I1 hI1
      have z0 : I1 R 0 = nI L := by rw [hI1.2 0 (by decide), fg _ (by omega)]; exact h0
      obtain ⟨way, by_, s, e, f, t, q1, q2, q3, q4, q5, q6, q7, q8, q9, q10, q11, q12, q13, q14, q15⟩ := hs i hi
      have z3 : I1 (R + 3) i = nI s := by rw [hI1.1 _ (by omega) (by omega), fg _ (by omega)]; exact q5
      have z4 : I1 (R + 4) i = nI e := by rw [hI1.1 _ (by omega) (by omega), fg _ (by omega)]; exact q6
      have hi16 : i < 16 := by omega
      rw [show L - i = (L - (i + 1)) + 1 by omega, fkO]
      by_cases y : sg i = []
      · have c : lnY sg vs i = true := cd_iff.mpr (.inl y)
        rw [if_pos c, Nat.zero_add]
        refine ⟨I1, ?_, hI1⟩
        have es : e = s := by rw [q11, y]; rfl
        rw [es] at z4
        have s400 : s ≤ 400 := by omega
        obtain ⟨r1, r2, r3, r4, r5, r6, r7, r8, r9, r10, r11, r12, r13, r14, r15⟩ := hR
        rw [U_73_1]
        simp (disch := first | omega | assumption | exact rfl) only [U_73_2, U_73_4, XX, QQ, WW, KK, QX, SHs, RRs, Nat.reduceAdd, Nat.reduceMul, Nat.reduceLeDiff, Nat.reduceEqDiff, List.length_cons, List.length_nil, decide_true, decide_false, Bool.true_and, Bool.and_true, Bool.false_and, Bool.and_false, false_and, and_false, Bool.false_eq_true, Bool.true_eq_false, reduceCtorEq, eq_self, if_true, if_false, true_and, and_true, not_true_eq_false, not_false_eq_true, if_pos, if_neg, z_ite_not, false_or, or_false, true_or, or_true, SWs, swk_0, swk_1, r1, z0, r10, r11, r14, r15, z3, z4]
      · have ha : ak (sg i) [] = some [true] := q15.resolve_left y
        obtain ⟨b, hb⟩ := evL_b (vs := vs) ha
        obtain ⟨ff, m, ho⟩ := s_holds (X := X) (d := d) (I := I1) (J := J) (by omega) hR q7 (fun o ho => by rw [hI1.1 _ (by omega) (by omega)]; exact gv o ho) ha (by rw [hI1.1 _ (by omega) (by omega), fg _ (by omega)]; exact q13) q11 hb
        have hI2 : FrR R Ig (pS I1 R ff m) := FrR_t hI1 FrR_p
        obtain ⟨I2, eI2⟩ : ∃ I2, I2 = pS I1 R ff m := ⟨_, rfl⟩
        rw [← eI2] at ho hI2
        have es : ¬ s = e := fun z => y (segC_0 (by omega))
        have s400 : s ≤ 400 := by omega
        obtain ⟨r1, r2, r3, r4, r5, r6, r7, r8, r9, r10, r11, r12, r13, r14, r15⟩ := hR
        cases b with
        | true =>
          have c : lnY sg vs i = true := cd_iff.mpr (.inr hb)
          rw [if_pos c, Nat.zero_add]
          refine ⟨I2, ?_, hI2⟩
          rw [U_73_1]
          simp (disch := first | omega | assumption | exact rfl) only [U_73_2, U_73_3, U_73_4, XX, QQ, WW, KK, QX, SHs, RRs, Nat.reduceAdd, Nat.reduceMul, Nat.reduceLeDiff, Nat.reduceEqDiff, List.length_cons, List.length_nil, decide_true, decide_false, Bool.true_and, Bool.and_true, Bool.false_and, Bool.and_false, false_and, and_false, Bool.false_eq_true, Bool.true_eq_false, reduceCtorEq, eq_self, if_true, if_false, true_and, and_true, not_true_eq_false, not_false_eq_true, if_pos, if_neg, z_ite_not, false_or, or_false, true_or, or_true, SWs, swk_0, swk_1, r1, z0, r10, r11, r14, r15, z3, z4, ho]
        | false =>
          have c : ¬ lnY sg vs i = true := fun z => by
            rcases cd_iff.mp z with z | z
            · exact y z
            · rw [hb] at z; exact absurd z (by decide +kernel)
          rw [if_neg c]
          obtain ⟨I', w1, w2⟩ := ih I2 hI2
          refine ⟨I', ?_, w2⟩
          rw [U_73_1]
          simp (disch := first | omega | assumption | exact rfl) only [U_73_2, U_73_3, U_73_5, XX, QQ, WW, KK, QX, SHs, RRs, Nat.reduceAdd, Nat.reduceMul, Nat.reduceLeDiff, Nat.reduceEqDiff, List.length_cons, List.length_nil, decide_true, decide_false, Bool.true_and, Bool.and_true, Bool.false_and, Bool.and_false, false_and, and_false, Bool.false_eq_true, Bool.true_eq_false, reduceCtorEq, eq_self, if_true, if_false, true_and, and_true, not_true_eq_false, not_false_eq_true, if_pos, if_neg, z_ite_not, false_or, or_false, true_or, or_true, SWs, swk_0, swk_1, r1, z0, r10, r11, r14, r15, z3, z4, ho]
          exact w1
  obtain ⟨I', t1, t2⟩ := lp
  refine ⟨I', ?_, fun a h1 h2 h3 => by rw [t2.1 a h1 h3, fg a h2], fun j hj => by rw [t2.2 j hj, fg _ (by omega)]⟩
  refine callF_at (by omega) (by decide) (Nat.le_of_ble_eq_true rfl) (fun d' hd' => ?_)
  obtain rfl : d = d' := by omega
  show Ev X d 73 0 [.ref R, .int x1, .int x2, .int x3, .int x4, .int x5, .retAddr 0] [] (mk I J) _
  obtain ⟨r1, r2, r3, r4, r5, r6, r7, _⟩ := hR
  rw [eIg, eg] at t1
  simp (disch := first | omega | assumption | exact rfl) only [U_73_0, XX, QQ, WW, KK, QX, SHs, RRs, Nat.reduceAdd, Nat.reduceMul, Nat.reduceLeDiff, Nat.reduceEqDiff, List.length_cons, List.length_nil, decide_true, decide_false, Bool.true_and, Bool.and_true, Bool.false_and, Bool.and_false, false_and, and_false, Bool.false_eq_true, Bool.true_eq_false, reduceCtorEq, eq_self, if_true, if_false, true_and, and_true, not_true_eq_false, not_false_eq_true, if_pos, if_neg, z_ite_not, false_or, or_false, true_or, or_true, SWs, swk_0, swk_1, r1, r3, r6]
  exact t1
end LNE
