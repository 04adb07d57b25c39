/-! ===== parting: the reference parts, all of them ===== -/
theorem bI_f {b : Bool} : bI (!b) = nI (if b = true then 0 else 1) := by cases b <;> rfl
theorem cAt_f {F R x y p q : Nat} {f : Nat → Int32} (h24 : pop F ≤ 24) (hD : DNr F R f) (hRF : ∀ k, R.testBit k = true → F.testBit k = true) (hq : q = 8 * y + x) : (¬ (x < 8 ∧ y < 8 ∧ R.testBit q = true) ∧ (cAt F x y = -1 ∨ ∃ j, cAt F x y = nI j ∧ j < 24 ∧ f j = nI 1)) ∨ (x < 8 ∧ y < 8 ∧ R.testBit q = true ∧ ∃ j, j < pop F ∧ cAt F x y = nI j ∧ pl F j = q ∧ f j = nI 0) := by
  rcases cAt_in (F := F) (x := x) (y := y) h24 with ⟨a, b⟩ | ⟨j, hj, a, b, c1, c2⟩
  · left
    refine ⟨fun z => b ⟨z.1, z.2.1, by rw [← hq]; exact hRF q z.2.2⟩, .inl a⟩
  · have fj := hD j hj
    rw [b, ← hq, bI_f] at fj
    cases z : R.testBit q with
    | true =>
      right
      rw [z, if_pos rfl] at fj
      exact ⟨c1, c2, rfl, j, hj, a, by rw [b, hq], fj⟩
    | false =>
      left
      rw [z, if_neg (by decide)] at fj
      exact ⟨fun w => absurd w.2.2 Bool.false_ne_true, .inr ⟨j, a, by omega, fj⟩⟩
theorem irem2 : nI 0 - nI 0 / nI 2 * nI 2 = nI 0 ∧ nI 1 - nI 1 / nI 2 * nI 2 = nI 1 ∧ nI 2 - nI 2 / nI 2 * nI 2 = nI 0 ∧ nI 3 - nI 3 / nI 2 * nI 2 = nI 1 ∧ ¬ (nI 2 : Int32) = 0 ∧ ¬ (nI 3 : Int32) = 0 := by decide +kernel
theorem r_parts {X : Nat × (Nat → Int32)} {J : Nat → Nat → Int64} {s F : Nat} (hs : s < 6) : ∀ n (R c d : Nat) (I : Nat → Nat → Int32), RSh (I 178) s F → R < 2 ^ 64 → (∀ k, R.testBit k = true → F.testBit k = true) → DNr F R (I 194) → pop R ≤ n → n ≤ 24 → c ≤ 12 → n + 3 ≤ d → callF X d 241 [.ref 177, .int (nI s), .int (nI c), .int (nI (pop R))] (mk I J) = some (some (.int (bI ((sp 24 R).testBit c))), mk I J) := by
  intro n
  have zero : ∀ (R c d : Nat) (I : Nat → Nat → Int32), R = 0 → c ≤ 12 → 3 ≤ d → callF X d 241 [.ref 177, .int (nI s), .int (nI c), .int (nI (pop R))] (mk I J) = some (some (.int (bI ((sp 24 R).testBit c))), mk I J) := fun R c d I z hc hd => by
    subst z
    rw [pop_0, show sp 24 0 = 1 by rw [sp, if_pos rfl]]
    refine callF_at (by omega) (by decide) (Nat.le_of_ble_eq_true rfl) (fun d _ => ?_)
    show Ev X d 241 0 [.ref 177, .int (nI s), .int (nI c), .int (nI 0), .retAddr 0, .retAddr 0, .retAddr 0, .retAddr 0, .retAddr 0, .retAddr 0, .retAddr 0, .retAddr 0] [] ( mk I J) _
    by_cases c0 : c = 0
    · subst c0
      simp (disch := first | omega | assumption | exact rfl) only [U_241_0, U_241_1, U_241_2, U_241_4, XX, QQ, WW, KK, QX, SHs, RRs, Nat.reduceAdd, Nat.reduceMul, Nat.reduceLeDiff, Nat.reduceEqDiff, List.length_cons, List.length_nil, decide_true, decide_false, Bool.true_and, Bool.and_true, Bool.false_and, Bool.and_false, false_and, and_false, Bool.false_eq_true, Bool.true_eq_false, reduceCtorEq, eq_self, if_true, if_false, true_and, and_true, not_true_eq_false, not_false_eq_true, if_pos, if_neg, z_ite_not, false_or, or_false, true_or, or_true, SWs, swk_0, swk_1]
      rfl
    · have e : Nat.testBit 1 c = false := by
        obtain ⟨c', rfl⟩ : ∃ c', c = c' + 1 := ⟨c - 1, by omega⟩
        rw [Nat.testBit_succ]; simp
      rw [e]
      simp (disch := first | omega | assumption | exact rfl) only [U_241_0, U_241_1, U_241_3, U_241_4, XX, QQ, WW, KK, QX, SHs, RRs, Nat.reduceAdd, Nat.reduceMul, Nat.reduceLeDiff, Nat.reduceEqDiff, List.length_cons, List.length_nil, decide_true, decide_false, Bool.true_and, Bool.and_true, Bool.false_and, Bool.and_false, false_and, and_false, Bool.false_eq_true, Bool.true_eq_false, reduceCtorEq, eq_self, if_true, if_false, true_and, and_true, not_true_eq_false, not_false_eq_true, if_pos, if_neg, z_ite_not, false_or, or_false, true_or, or_true, SWs, swk_0, swk_1, c0]
  induction n with
  | zero =>
    intro R c d I _ hR _ _ hp _ hc hd
    exact zero R c d I ((pop_z hR).mp (by omega)) hc (by omega)
  | succ n ih =>
    intro R c d I hS hR hRF hD hp hn hc hd
    by_cases z : R = 0
    · exact zero R c d I z hc (by omega)
    have h24 := hS.1
    have p0 : 0 < pop R := Nat.pos_of_ne_zero (fun q => z ((pop_z hR).mp q))
    have l24 : pop R ≤ 24 := by omega
    obtain ⟨i1, i2, i3, i4, i5, i6⟩ := irem2
    obtain ⟨d, rfl⟩ : ∃ d', d = d' + 1 := ⟨d - 1, by omega⟩
    refine callF_at (by omega) (by decide) (Nat.le_of_ble_eq_true rfl) (fun d' hd' => ?_)
    obtain rfl : d = d' := by omega
    show Ev X d 241 0 [.ref 177, .int (nI s), .int (nI c), .int (nI (pop R)), .retAddr 0, .retAddr 0, .retAddr 0, .retAddr 0, .retAddr 0, .retAddr 0, .retAddr 0, .retAddr 0] [] (mk I J) _
    obtain ⟨lf, elf⟩ : ∃ lf, lf = pop R := ⟨_, rfl⟩
    rw [← elf] at p0 l24 hp ⊢
    have nl : ¬ lf = 0 := by omega
    -- it cannot be for the numbers
    by_cases k1 : lf < 2 * c
    · have e : (sp 24 R).testBit c = false := by
        cases w : (sp 24 R).testBit c with
        | false => rfl
        | true => obtain ⟨t, et⟩ := sp_pop 24 R c hR (by omega) (by decide) w; omega
      rw [e]
      simp (disch := first | omega | assumption | exact rfl) only [U_241_0, U_241_5, U_241_7, XX, QQ, WW, KK, QX, SHs, RRs, Nat.reduceAdd, Nat.reduceMul, Nat.reduceLeDiff, Nat.reduceEqDiff, List.length_cons, List.length_nil, decide_true, decide_false, Bool.true_and, Bool.and_true, Bool.false_and, Bool.and_false, false_and, and_false, Bool.false_eq_true, Bool.true_eq_false, reduceCtorEq, eq_self, if_true, if_false, true_and, and_true, not_true_eq_false, not_false_eq_true, if_pos, if_neg, z_ite_not, false_or, or_false, true_or, or_true, SWs, swk_0, swk_1, nl]
    by_cases k2 : (lf - 2 * c) % 3 = 0
    rotate_left
    · have e : (sp 24 R).testBit c = false := by
        cases w : (sp 24 R).testBit c with
        | false => rfl
        | true => obtain ⟨t, et⟩ := sp_pop 24 R c hR (by omega) (by decide) w; omega
      rw [e]
      have er := n_rem (a := lf - 2 * c) (m := 3) (by omega) (by omega) (by omega)
      have m3 : (lf - 2 * c) % 3 < 3 := Nat.mod_lt _ (by decide)
      have k3 : 2 * c ≤ lf := by omega
      simp (disch := first | omega | assumption | exact rfl) only [U_241_0, U_241_5, U_241_6, U_241_7, XX, QQ, WW, KK, QX, SHs, RRs, Nat.reduceAdd, Nat.reduceMul, Nat.reduceLeDiff, Nat.reduceEqDiff, List.length_cons, List.length_nil, decide_true, decide_false, Bool.true_and, Bool.and_true, Bool.false_and, Bool.and_false, false_and, and_false, Bool.false_eq_true, Bool.true_eq_false, reduceCtorEq, eq_self, if_true, if_false, true_and, and_true, not_true_eq_false, not_false_eq_true, if_pos, if_neg, z_ite_not, false_or, or_false, true_or, or_true, SWs, swk_0, swk_1, nl, k1, er, i6, k2]
    have k3 : 2 * c ≤ lf := by omega
    have er := n_rem (a := lf - 2 * c) (m := 3) (by omega) (by omega) (by omega)
    rw [k2] at er
    obtain ⟨h1, h2, _, h4⟩ := low_p hR z
    obtain ⟨p, ep⟩ : ∃ p, p = lbp R := ⟨_, rfl⟩
    rw [← ep] at h1 h2 h4
    have Fp := hRF p h1
    obtain ⟨i, ei⟩ : ∃ i, i = num F p := ⟨_, rfl⟩
    have hi : i < pop F := by rw [ei]; exact num_lt h2 Fp
    have pi : pl F i = p := by rw [ei]; exact pl_num h2 Fp
    have i24 : i < 24 := by omega
    have fi : I 194 i = nI 0 := by rw [hD i hi, pi, h1]; rfl
    have sb := sp_bit (c := c) hR (by omega) z ep
    obtain ⟨T, eT⟩ : ∃ T, T = (sp 24 R).testBit c := ⟨_, rfl⟩
    rw [← eT] at sb ⊢
    obtain ⟨f, ef⟩ : ∃ f, f = I 194 := ⟨_, rfl⟩
    rw [← ef] at hD fi
    -- rests that are left
    have D1 := DNr_rm (F := F) (i := i) hR hi hD
    rw [pi] at D1
    have p1 := rmS_pop hR h1
    have two : ∀ q j, j < pop F → pl F j = q → q ≠ p → R.testBit q = true → 1 ≤ c → callF X d 241 [.ref 177, .int (nI s), .int (nI c - nI 1), .int (nI lf - nI 2)] (mk (va_up I 194 (va_up (va_up f i (nI 1)) j (nI 1))) J) = some (some (.int (bI ((sp 24 (rmS (rmS R (2 ^ p)) (2 ^ q))).testBit (c - 1)))), mk (va_up I 194 (va_up (va_up f i (nI 1)) j (nI 1))) J) := fun q j hj ej ne hq hc1 => by
      have hq' : (rmS R (2 ^ p)).testBit q = true := (rmS_tb hR).mpr ⟨hq, by rw [Nat.testBit_two_pow]; exact decide_eq_false (fun t => ne t.symm)⟩
      have p2 := rmS_pop (R := rmS R (2 ^ p)) rmS_lt hq'
      have D2 := DNr_rm (F := F) (i := j) rmS_lt hj D1
      rw [ej] at D2
      have ew : lf - 2 = pop (rmS (rmS R (2 ^ p)) (2 ^ q)) := by omega
      rw [q_sub hc1, q_sub (by omega), ew]
      exact ih _ (c - 1) d (va_up I 194 (va_up (va_up f i (nI 1)) j (nI 1))) (by rw [vu_ne (by decide)]; exact hS) rmS_lt (fun k hk => hRF k ((rmS_tb hR).mp ((rmS_tb rmS_lt).mp hk).1).1) (by rw [vu_eq]; exact D2) (by omega) (by omega) (by omega) (by omega)
    have three : ∀ q w j m, j < pop F → pl F j = q → m < pop F → pl F m = w → q ≠ p → w ≠ p → w ≠ q → R.testBit q = true → R.testBit w = true → callF X d 241 [.ref 177, .int (nI s), .int (nI c), .int (nI lf - nI 3)] (mk (va_up I 194 (va_up (va_up (va_up f i (nI 1)) j (nI 1)) m (nI 1))) J) = some (some (.int (bI ((sp 24 (rmS (rmS (rmS R (2 ^ p)) (2 ^ q)) (2 ^ w))).testBit c))), mk (va_up I 194 (va_up (va_up (va_up f i (nI 1)) j (nI 1)) m (nI 1))) J) := fun q w j m hj ej hm em ne n2 n3 hq hw => by
      have hq' : (rmS R (2 ^ p)).testBit q = true := (rmS_tb hR).mpr ⟨hq, by rw [Nat.testBit_two_pow]; exact decide_eq_false (fun t => ne t.symm)⟩
      have p2 := rmS_pop (R := rmS R (2 ^ p)) rmS_lt hq'
      have hw' : (rmS (rmS R (2 ^ p)) (2 ^ q)).testBit w = true := (rmS_tb rmS_lt).mpr ⟨(rmS_tb hR).mpr ⟨hw, by rw [Nat.testBit_two_pow]; exact decide_eq_false (fun t => n2 t.symm)⟩, by rw [Nat.testBit_two_pow]; exact decide_eq_false (fun t => n3 t.symm)⟩
      have p3 := rmS_pop (R := rmS (rmS R (2 ^ p)) (2 ^ q)) rmS_lt hw'
      have D2 := DNr_rm (F := F) (i := j) rmS_lt hj D1
      rw [ej] at D2
      have D3 := DNr_rm (F := F) (i := m) rmS_lt hm D2
      rw [em] at D3
      have ew : lf - 3 = pop (rmS (rmS (rmS R (2 ^ p)) (2 ^ q)) (2 ^ w)) := by omega
      rw [q_sub (by omega), ew]
      exact ih _ c d (va_up I 194 (va_up (va_up (va_up f i (nI 1)) j (nI 1)) m (nI 1))) (by rw [vu_ne (by decide)]; exact hS) rmS_lt (fun k hk => hRF k ((rmS_tb hR).mp ((rmS_tb rmS_lt).mp ((rmS_tb rmS_lt).mp hk).1).1).1) (by rw [vu_eq]; exact D3) (by omega) (by omega) hc (by omega)
    have tr : ∀ v : Bool, (v = true → T = true) → (v = true → (some (.int (bI T)), mk I J) = ((some (.int (nI 1)), mk I J) : Option Value × Mem)) := fun v h e => by rw [h e]; rfl
    have ca : ∀ x y, x < 16 → y < 16 → callF X d 240 [.ref 177, .int (nI s), .int (nI x), .int (nI y)] (mk I J) = some (some (.int (cAt F x y)), mk I J) := fun x y hx hy => r_cellAt (by omega) hs hS hx hy
    have x8 : p % 8 < 8 := Nat.mod_lt _ (by decide)
    have y8 : p / 8 < 8 := by omega
    -- way 4: none was good
    have w4 : T = false → ∀ u8 u9 u10 u11 : Value, Ev X d 241 12 [.ref 177, .int (nI s), .int (nI c), .int (nI lf), .int (nI i), .int (nI (p % 8)), .int (nI (p / 8)), .int (nI 4), u8, u9, u10, u11] [] (mk I J) (some (.int (bI T)), mk I J) := fun e u8 u9 u10 u11 => by
      rw [e]
      simp (disch := first | omega | assumption | exact rfl) only [U_241_12, U_241_50, XX, QQ, WW, KK, QX, SHs, RRs, Nat.reduceAdd, Nat.reduceMul, Nat.reduceLeDiff, Nat.reduceEqDiff, List.length_cons, List.length_nil, decide_true, decide_false, Bool.true_and, Bool.and_true, Bool.false_and, Bool.and_false, false_and, and_false, Bool.false_eq_true, Bool.true_eq_false, reduceCtorEq, eq_self, if_true, if_false, true_and, and_true, not_true_eq_false, not_false_eq_true, if_pos, if_neg, z_ite_not, false_or, or_false, true_or, or_true, SWs, swk_0, swk_1]
    obtain ⟨L0, eL0⟩ : ∃ L0 : List Value, L0 = [.ref 177, .int (nI s), .int (nI c), .int (nI lf), .int (nI i), .int (nI (p % 8)), .int (nI (p / 8))] := ⟨_, rfl⟩
    have th : ∀ (w bx by_ cx cy q r' : Nat), q = 8 * by_ + bx → r' = 8 * cy + cx → q ≠ p → r' ≠ p → r' ≠ q → ((bx < 8 ∧ by_ < 8 ∧ R.testBit q = true ∧ cx < 8 ∧ cy < 8 ∧ R.testBit r' = true ∧ (sp 24 (rmS (rmS (rmS R (2 ^ p)) (2 ^ q)) (2 ^ r'))).testBit c = true) → T = true) → (¬ (bx < 8 ∧ by_ < 8 ∧ R.testBit q = true ∧ cx < 8 ∧ cy < 8 ∧ R.testBit r' = true ∧ (sp 24 (rmS (rmS (rmS R (2 ^ p)) (2 ^ q)) (2 ^ r'))).testBit c = true) → ∀ u11 : Value, Ev X d 241 49 [.ref 177, .int (nI s), .int (nI c), .int (nI lf), .int (nI i), .int (nI (p % 8)), .int (nI (p / 8)), .int (nI w), .int (nI 3), .int (cAt F bx by_), .int (cAt F cx cy), u11] [] (mk I J) (some (.int (bI T)), mk I J)) → ∀ u10 u11 : Value, Ev X d 241 34 [.ref 177, .int (nI s), .int (nI c), .int (nI lf), .int (nI i), .int (nI (p % 8)), .int (nI (p / 8)), .int (nI w), .int (nI 3), .int (cAt F bx by_), u10, u11] [.int (cAt F cx cy)] (mk I J) (some (.int (bI T)), mk I J) := fun w bx by_ cx cy q r' eq er n1 n2 n3 hW h49 => by
      rcases cAt_f (p := p) h24 hD hRF eq with ⟨a, b | ⟨j, b, j24, fj⟩⟩ | ⟨a1, a2, a3, j, hj, b, pj, fj⟩
      · exact r_th (j := 0) (m := 0) (v := false) ef.symm rfl i24 fi (fun _ => h49 (fun t => a ⟨t.1, t.2.1, t.2.2.1⟩)) (.inl ⟨rfl, b⟩)
      · exact r_th (j := j) (m := 0) (v := false) ef.symm rfl i24 fi (fun _ => h49 (fun t => a ⟨t.1, t.2.1, t.2.2.1⟩)) (.inr (.inl ⟨rfl, b, j24, fj⟩))
      · rcases cAt_f (p := p) h24 hD hRF er with ⟨a', b' | ⟨m, b', m24, fm⟩⟩ | ⟨a1', a2', a3', m, hm, b', pm, fm⟩
        · exact r_th (j := j) (m := 0) (v := false) ef.symm rfl i24 fi (fun _ => h49 (fun t => a' ⟨t.2.2.2.1, t.2.2.2.2.1, t.2.2.2.2.2.1⟩)) (.inr (.inr (.inl ⟨rfl, b, by omega, fj, b'⟩)))
        · exact r_th (j := j) (m := m) (v := false) ef.symm rfl i24 fi (fun _ => h49 (fun t => a' ⟨t.2.2.2.1, t.2.2.2.2.1, t.2.2.2.2.2.1⟩)) (.inr (.inr (.inr (.inl ⟨rfl, b, by omega, fj, b', m24, fm⟩))))
        · have rc := three q r' j m hj pj hm pm n1 n2 n3 a3 a3'
          obtain ⟨v, ev⟩ : ∃ v, v = (sp 24 (rmS (rmS (rmS R (2 ^ p)) (2 ^ q)) (2 ^ r'))).testBit c := ⟨_, rfl⟩
          rw [← ev] at rc hW h49
          exact r_th (j := j) (m := m) (v := v) ef.symm rfl i24 fi (fun e => h49 (fun t => by rw [e] at t; exact absurd t.2.2.2.2.2.2 Bool.false_ne_true)) (.inr (.inr (.inr (.inr ⟨b, by omega, fun t => n1 (by rw [← pj, t, pi]), fj, b', by omega, fun t => n2 (by rw [← pm, t, pi]), fun t => n3 (by rw [← pm, t, pj]), fm, rc, tr v (fun e => hW ⟨a1, a2, a3, a1', a2', a3', e⟩)⟩))))
    have cp : ∀ (w bx by_ q : Nat), 1 ≤ c → q = 8 * by_ + bx → q ≠ p → ((bx < 8 ∧ by_ < 8 ∧ R.testBit q = true ∧ (sp 24 (rmS (rmS R (2 ^ p)) (2 ^ q))).testBit (c - 1) = true) → T = true) → (¬ (bx < 8 ∧ by_ < 8 ∧ R.testBit q = true ∧ (sp 24 (rmS (rmS R (2 ^ p)) (2 ^ q))).testBit (c - 1) = true) → ∀ u11 : Value, Ev X d 241 49 [.ref 177, .int (nI s), .int (nI c), .int (nI lf), .int (nI i), .int (nI (p % 8)), .int (nI (p / 8)), .int (nI w), .int (nI 2), .int (cAt F bx by_), .int (-1), u11] [] (mk I J) (some (.int (bI T)), mk I J)) → ∀ u10 u11 : Value, Ev X d 241 34 [.ref 177, .int (nI s), .int (nI c), .int (nI lf), .int (nI i), .int (nI (p % 8)), .int (nI (p / 8)), .int (nI w), .int (nI 2), .int (cAt F bx by_), u10, u11] [.int (-1)] (mk I J) (some (.int (bI T)), mk I J) := fun w bx by_ q hc1 eq n1 hW h49 => by
      rcases cAt_f (p := p) h24 hD hRF eq with ⟨a, b | ⟨j, b, j24, fj⟩⟩ | ⟨a1, a2, a3, j, hj, b, pj, fj⟩
      · exact r_cp (j := 0) (v := false) ef.symm rfl i24 fi (fun _ => h49 (fun t => a ⟨t.1, t.2.1, t.2.2.1⟩)) (.inl ⟨rfl, b⟩)
      · exact r_cp (j := j) (v := false) ef.symm rfl i24 fi (fun _ => h49 (fun t => a ⟨t.1, t.2.1, t.2.2.1⟩)) (.inr (.inl ⟨rfl, b, j24, fj⟩))
      · have rc := two q j hj pj n1 a3 hc1
        obtain ⟨v, ev⟩ : ∃ v, v = (sp 24 (rmS (rmS R (2 ^ p)) (2 ^ q))).testBit (c - 1) := ⟨_, rfl⟩
        rw [← ev] at rc hW h49
        exact r_cp (j := j) (v := v) ef.symm rfl i24 fi (fun e => h49 (fun t => by rw [e] at t; exact absurd t.2.2.2 Bool.false_ne_true)) (.inr (.inr ⟨b, by omega, fun t => n1 (by rw [← pj, t, pi]), fj, rc, tr v (fun e => hW ⟨a1, a2, a3, e⟩)⟩))
    -- way 3: a three upward
    have A3 : (p + 8 < 64 ∧ R.testBit (p + 8) = true ∧ p + 16 < 64 ∧ R.testBit (p + 16) = true ∧ (sp 24 (rmS (rmS (rmS R (2 ^ p)) (2 ^ (p + 8))) (2 ^ (p + 16)))).testBit c = true) ↔ (p % 8 < 8 ∧ p / 8 + 1 < 8 ∧ R.testBit (p + 8) = true ∧ p % 8 < 8 ∧ p / 8 + 2 < 8 ∧ R.testBit (p + 16) = true ∧ (sp 24 (rmS (rmS (rmS R (2 ^ p)) (2 ^ (p + 8))) (2 ^ (p + 16)))).testBit c = true) := by
      constructor
      · rintro ⟨q1, q2, q3, q4, q5⟩; exact ⟨by omega, by omega, q2, by omega, by omega, q4, q5⟩
      · rintro ⟨q1, q2, q3, q4, q5, q6, q7⟩; exact ⟨by omega, q3, by omega, q6, q7⟩
    have A2 : (p % 8 < 7 ∧ R.testBit (p + 1) = true ∧ p % 8 < 6 ∧ R.testBit (p + 2) = true ∧ (sp 24 (rmS (rmS (rmS R (2 ^ p)) (2 ^ (p + 1))) (2 ^ (p + 2)))).testBit c = true) ↔ (p % 8 + 1 < 8 ∧ p / 8 < 8 ∧ R.testBit (p + 1) = true ∧ p % 8 + 2 < 8 ∧ p / 8 < 8 ∧ R.testBit (p + 2) = true ∧ (sp 24 (rmS (rmS (rmS R (2 ^ p)) (2 ^ (p + 1))) (2 ^ (p + 2)))).testBit c = true) := by
      constructor
      · rintro ⟨q1, q2, q3, q4, q5⟩; exact ⟨by omega, by omega, q2, by omega, by omega, q4, q5⟩
      · rintro ⟨q1, q2, q3, q4, q5, q6, q7⟩; exact ⟨by omega, q3, by omega, q6, q7⟩
    have A1 : (p + 8 < 64 ∧ R.testBit (p + 8) = true ∧ 1 ≤ c ∧ (sp 24 (rmS (rmS R (2 ^ p)) (2 ^ (p + 8)))).testBit (c - 1) = true) ↔ (1 ≤ c ∧ (p % 8 < 8 ∧ p / 8 + 1 < 8 ∧ R.testBit (p + 8) = true ∧ (sp 24 (rmS (rmS R (2 ^ p)) (2 ^ (p + 8)))).testBit (c - 1) = true)) := by
      constructor
      · rintro ⟨q1, q2, q3, q4⟩; exact ⟨q3, by omega, by omega, q2, q4⟩
      · rintro ⟨q0, q1, q2, q3, q4⟩; exact ⟨by omega, q3, q0, q4⟩
    have A0 : (p % 8 < 7 ∧ R.testBit (p + 1) = true ∧ 1 ≤ c ∧ (sp 24 (rmS (rmS R (2 ^ p)) (2 ^ (p + 1)))).testBit (c - 1) = true) ↔ (1 ≤ c ∧ (p % 8 + 1 < 8 ∧ p / 8 < 8 ∧ R.testBit (p + 1) = true ∧ (sp 24 (rmS (rmS R (2 ^ p)) (2 ^ (p + 1)))).testBit (c - 1) = true)) := by
      constructor
      · rintro ⟨q1, q2, q3, q4⟩; exact ⟨q3, by omega, by omega, q2, q4⟩
      · rintro ⟨q0, q1, q2, q3, q4⟩; exact ⟨by omega, q3, q0, q4⟩
    rw [A0, A1, A2, A3] at sb
    obtain ⟨W0, eW0⟩ : ∃ W : Prop, W = (p % 8 + 1 < 8 ∧ p / 8 < 8 ∧ R.testBit (p + 1) = true ∧ (sp 24 (rmS (rmS R (2 ^ p)) (2 ^ (p + 1)))).testBit (c - 1) = true) := ⟨_, rfl⟩
    obtain ⟨W1, eW1⟩ : ∃ W : Prop, W = (p % 8 < 8 ∧ p / 8 + 1 < 8 ∧ R.testBit (p + 8) = true ∧ (sp 24 (rmS (rmS R (2 ^ p)) (2 ^ (p + 8)))).testBit (c - 1) = true) := ⟨_, rfl⟩
    obtain ⟨W2, eW2⟩ : ∃ W : Prop, W = (p % 8 + 1 < 8 ∧ p / 8 < 8 ∧ R.testBit (p + 1) = true ∧ p % 8 + 2 < 8 ∧ p / 8 < 8 ∧ R.testBit (p + 2) = true ∧ (sp 24 (rmS (rmS (rmS R (2 ^ p)) (2 ^ (p + 1))) (2 ^ (p + 2)))).testBit c = true) := ⟨_, rfl⟩
    obtain ⟨W3, eW3⟩ : ∃ W : Prop, W = (p % 8 < 8 ∧ p / 8 + 1 < 8 ∧ R.testBit (p + 8) = true ∧ p % 8 < 8 ∧ p / 8 + 2 < 8 ∧ R.testBit (p + 16) = true ∧ (sp 24 (rmS (rmS (rmS R (2 ^ p)) (2 ^ (p + 8))) (2 ^ (p + 16)))).testBit c = true) := ⟨_, rfl⟩
    rw [← eW0, ← eW1, ← eW2, ← eW3] at sb
    have q8 : p + 8 = 8 * (p / 8 + 1) + p % 8 := by omega
    have q16 : p + 16 = 8 * (p / 8 + 2) + p % 8 := by omega
    have q1 : p + 1 = 8 * (p / 8) + (p % 8 + 1) := by omega
    have q2 : p + 2 = 8 * (p / 8) + (p % 8 + 2) := by omega
    have ca01 := ca (p % 8) (p / 8 + 1) (by omega) (by omega)
    have ca02 := ca (p % 8) (p / 8 + 2) (by omega) (by omega)
    have ca10 := ca (p % 8 + 1) (p / 8) (by omega) (by omega)
    have ca20 := ca (p % 8 + 2) (p / 8) (by omega) (by omega)
    have w3 : ¬ (1 ≤ c ∧ W0) → ¬ (1 ≤ c ∧ W1) → ¬ W2 → ∀ u8 u9 u10 u11 : Value, Ev X d 241 12 [.ref 177, .int (nI s), .int (nI c), .int (nI lf), .int (nI i), .int (nI (p % 8)), .int (nI (p / 8)), .int (nI 3), u8, u9, u10, u11] [] (mk I J) (some (.int (bI T)), mk I J) := fun z0 z1 z2 u8 u9 u10 u11 => by
      have t := th 3 (p % 8) (p / 8 + 1) (p % 8) (p / 8 + 2) (p + 8) (p + 16) q8 q16 (by omega) (by omega) (by omega) (by rw [← eW3]; exact fun w => sb.mpr (.inr (.inr w))) (by
        rw [← eW3]
        intro z3 u11
        have k := w4 (by
          cases e : T with
          | false => rfl
          | true => rcases sb.mp e with (w | w) | (w | w); exact absurd w z0; exact absurd w z2; exact absurd w z1; exact absurd w z3)
        simp (disch := first | omega | assumption | exact rfl) only [U_241_49, XX, QQ, WW, KK, QX, SHs, RRs, Nat.reduceAdd, Nat.reduceMul, Nat.reduceLeDiff, Nat.reduceEqDiff, List.length_cons, List.length_nil, decide_true, decide_false, Bool.true_and, Bool.and_true, Bool.false_and, Bool.and_false, false_and, and_false, Bool.false_eq_true, Bool.true_eq_false, reduceCtorEq, eq_self, if_true, if_false, true_and, and_true, not_true_eq_false, not_false_eq_true, if_pos, if_neg, z_ite_not, false_or, or_false, true_or, or_true, SWs, swk_0, swk_1]
        exact k _ _ _ _) u10 u11
      rw [U_241_12]
      simp (disch := first | omega | assumption | exact rfl) only [U_241_13, U_241_15, U_241_16, U_241_19, U_241_21, U_241_22, U_241_24, U_241_25, U_241_27, U_241_29, U_241_30, U_241_32, U_241_33, XX, QQ, WW, KK, QX, SHs, RRs, Nat.reduceAdd, Nat.reduceMul, Nat.reduceLeDiff, Nat.reduceEqDiff, List.length_cons, List.length_nil, decide_true, decide_false, Bool.true_and, Bool.and_true, Bool.false_and, Bool.and_false, false_and, and_false, Bool.false_eq_true, Bool.true_eq_false, reduceCtorEq, eq_self, if_true, if_false, true_and, and_true, not_true_eq_false, not_false_eq_true, if_pos, if_neg, z_ite_not, false_or, or_false, true_or, or_true, SWs, swk_0, swk_1, i4, i5, ca01, ca02]
      exact t
    have w2 : ¬ (1 ≤ c ∧ W0) → ¬ (1 ≤ c ∧ W1) → ∀ u8 u9 u10 u11 : Value, Ev X d 241 12 [.ref 177, .int (nI s), .int (nI c), .int (nI lf), .int (nI i), .int (nI (p % 8)), .int (nI (p / 8)), .int (nI 2), u8, u9, u10, u11] [] (mk I J) (some (.int (bI T)), mk I J) := fun z0 z1 u8 u9 u10 u11 => by
      have t := th 2 (p % 8 + 1) (p / 8) (p % 8 + 2) (p / 8) (p + 1) (p + 2) q1 q2 (by omega) (by omega) (by omega) (by rw [← eW2]; exact fun w => sb.mpr (.inl (.inr w))) (by
        rw [← eW2]
        intro z2 u11
        have k := w3 z0 z1 z2
        simp (disch := first | omega | assumption | exact rfl) only [U_241_49, XX, QQ, WW, KK, QX, SHs, RRs, Nat.reduceAdd, Nat.reduceMul, Nat.reduceLeDiff, Nat.reduceEqDiff, List.length_cons, List.length_nil, decide_true, decide_false, Bool.true_and, Bool.and_true, Bool.false_and, Bool.and_false, false_and, and_false, Bool.false_eq_true, Bool.true_eq_false, reduceCtorEq, eq_self, if_true, if_false, true_and, and_true, not_true_eq_false, not_false_eq_true, if_pos, if_neg, z_ite_not, false_or, or_false, true_or, or_true, SWs, swk_0, swk_1]
        exact k _ _ _ _) u10 u11
      rw [U_241_12]
      simp (disch := first | omega | assumption | exact rfl) only [U_241_13, U_241_15, U_241_16, U_241_19, U_241_20, U_241_22, U_241_23, U_241_25, U_241_27, U_241_28, U_241_30, U_241_31, U_241_33, XX, QQ, WW, KK, QX, SHs, RRs, Nat.reduceAdd, Nat.reduceMul, Nat.reduceLeDiff, Nat.reduceEqDiff, List.length_cons, List.length_nil, decide_true, decide_false, Bool.true_and, Bool.and_true, Bool.false_and, Bool.and_false, false_and, and_false, Bool.false_eq_true, Bool.true_eq_false, reduceCtorEq, eq_self, if_true, if_false, true_and, and_true, not_true_eq_false, not_false_eq_true, if_pos, if_neg, z_ite_not, false_or, or_false, true_or, or_true, SWs, swk_0, swk_1, i3, i5, ca10, ca20]
      exact t
    have w1 : ¬ (1 ≤ c ∧ W0) → ∀ u8 u9 u10 u11 : Value, Ev X d 241 12 [.ref 177, .int (nI s), .int (nI c), .int (nI lf), .int (nI i), .int (nI (p % 8)), .int (nI (p / 8)), .int (nI 1), u8, u9, u10, u11] [] (mk I J) (some (.int (bI T)), mk I J) := fun z0 u8 u9 u10 u11 => by
      by_cases c0 : c = 0
      · have k := w2 z0 (fun q => by omega)
        subst c0
        rw [U_241_12]
        simp (disch := first | omega | assumption | exact rfl) only [U_241_13, U_241_14, U_241_16, U_241_17, U_241_18, U_241_49, XX, QQ, WW, KK, QX, SHs, RRs, Nat.reduceAdd, Nat.reduceMul, Nat.reduceLeDiff, Nat.reduceEqDiff, List.length_cons, List.length_nil, decide_true, decide_false, Bool.true_and, Bool.and_true, Bool.false_and, Bool.and_false, false_and, and_false, Bool.false_eq_true, Bool.true_eq_false, reduceCtorEq, eq_self, if_true, if_false, true_and, and_true, not_true_eq_false, not_false_eq_true, if_pos, if_neg, z_ite_not, false_or, or_false, true_or, or_true, SWs, swk_0, swk_1]
        exact k _ _ _ _
      · have t := cp 1 (p % 8) (p / 8 + 1) (p + 8) (by omega) q8 (by omega) (by rw [← eW1]; exact fun w => sb.mpr (.inr (.inl ⟨by omega, w⟩))) (by
          rw [← eW1]
          intro z1 u11
          have k := w2 z0 (fun q => z1 q.2)
          simp (disch := first | omega | assumption | exact rfl) only [U_241_49, XX, QQ, WW, KK, QX, SHs, RRs, Nat.reduceAdd, Nat.reduceMul, Nat.reduceLeDiff, Nat.reduceEqDiff, List.length_cons, List.length_nil, decide_true, decide_false, Bool.true_and, Bool.and_true, Bool.false_and, Bool.and_false, false_and, and_false, Bool.false_eq_true, Bool.true_eq_false, reduceCtorEq, eq_self, if_true, if_false, true_and, and_true, not_true_eq_false, not_false_eq_true, if_pos, if_neg, z_ite_not, false_or, or_false, true_or, or_true, SWs, swk_0, swk_1]
          exact k _ _ _ _) u10 u11
        rw [U_241_12]
        simp (disch := first | omega | assumption | exact rfl) only [U_241_13, U_241_14, U_241_16, U_241_17, U_241_19, U_241_21, U_241_22, U_241_24, U_241_25, U_241_26, XX, QQ, WW, KK, QX, SHs, RRs, Nat.reduceAdd, Nat.reduceMul, Nat.reduceLeDiff, Nat.reduceEqDiff, List.length_cons, List.length_nil, decide_true, decide_false, Bool.true_and, Bool.and_true, Bool.false_and, Bool.and_false, false_and, and_false, Bool.false_eq_true, Bool.true_eq_false, reduceCtorEq, eq_self, if_true, if_false, true_and, and_true, not_true_eq_false, not_false_eq_true, if_pos, if_neg, z_ite_not, false_or, or_false, true_or, or_true, SWs, swk_0, swk_1, i2, i5, c0, ca01]
        exact t
    have w0 : ∀ u8 u9 u10 u11 : Value, Ev X d 241 12 [.ref 177, .int (nI s), .int (nI c), .int (nI lf), .int (nI i), .int (nI (p % 8)), .int (nI (p / 8)), .int (nI 0), u8, u9, u10, u11] [] (mk I J) (some (.int (bI T)), mk I J) := fun u8 u9 u10 u11 => by
      by_cases c0 : c = 0
      · have k := w1 (fun q => by omega)
        subst c0
        rw [U_241_12]
        simp (disch := first | omega | assumption | exact rfl) only [U_241_13, U_241_14, U_241_16, U_241_17, U_241_18, U_241_49, XX, QQ, WW, KK, QX, SHs, RRs, Nat.reduceAdd, Nat.reduceMul, Nat.reduceLeDiff, Nat.reduceEqDiff, List.length_cons, List.length_nil, decide_true, decide_false, Bool.true_and, Bool.and_true, Bool.false_and, Bool.and_false, false_and, and_false, Bool.false_eq_true, Bool.true_eq_false, reduceCtorEq, eq_self, if_true, if_false, true_and, and_true, not_true_eq_false, not_false_eq_true, if_pos, if_neg, z_ite_not, false_or, or_false, true_or, or_true, SWs, swk_0, swk_1]
        exact k _ _ _ _
      · have t := cp 0 (p % 8 + 1) (p / 8) (p + 1) (by omega) q1 (by omega) (by rw [← eW0]; exact fun w => sb.mpr (.inl (.inl ⟨by omega, w⟩))) (by
          rw [← eW0]
          intro z0 u11
          have k := w1 (fun q => z0 q.2)
          simp (disch := first | omega | assumption | exact rfl) only [U_241_49, XX, QQ, WW, KK, QX, SHs, RRs, Nat.reduceAdd, Nat.reduceMul, Nat.reduceLeDiff, Nat.reduceEqDiff, List.length_cons, List.length_nil, decide_true, decide_false, Bool.true_and, Bool.and_true, Bool.false_and, Bool.and_false, false_and, and_false, Bool.false_eq_true, Bool.true_eq_false, reduceCtorEq, eq_self, if_true, if_false, true_and, and_true, not_true_eq_false, not_false_eq_true, if_pos, if_neg, z_ite_not, false_or, or_false, true_or, or_true, SWs, swk_0, swk_1]
          exact k _ _ _ _) u10 u11
        rw [U_241_12]
        simp (disch := first | omega | assumption | exact rfl) only [U_241_13, U_241_14, U_241_16, U_241_17, U_241_19, U_241_20, U_241_22, U_241_23, U_241_25, U_241_26, XX, QQ, WW, KK, QX, SHs, RRs, Nat.reduceAdd, Nat.reduceMul, Nat.reduceLeDiff, Nat.reduceEqDiff, List.length_cons, List.length_nil, decide_true, decide_false, Bool.true_and, Bool.and_true, Bool.false_and, Bool.and_false, false_and, and_false, Bool.false_eq_true, Bool.true_eq_false, reduceCtorEq, eq_self, if_true, if_false, true_and, and_true, not_true_eq_false, not_false_eq_true, if_pos, if_neg, z_ite_not, false_or, or_false, true_or, or_true, SWs, swk_0, swk_1, i1, i5, c0, ca10]
        exact t
    -- the first cell that is left
    have fst : ∀ j, j ≤ i → Ev X d 241 9 [.ref 177, .int (nI s), .int (nI c), .int (nI lf), .int (nI j), .retAddr 0, .retAddr 0, .retAddr 0, .retAddr 0, .retAddr 0, .retAddr 0, .retAddr 0] [] (mk I J) (some (.int (bI T)), mk I J) := by
      refine lpd (n := i) (P := fun j => Ev X d 241 9 [.ref 177, .int (nI s), .int (nI c), .int (nI lf), .int (nI j), .retAddr 0, .retAddr 0, .retAddr 0, .retAddr 0, .retAddr 0, .retAddr 0, .retAddr 0] [] (mk I J) (some (.int (bI T)), mk I J)) ?_ ?_
      · obtain ⟨x1, x2⟩ := hS.2.2 i hi
        rw [pi] at x1 x2
        rw [ef] at fi
        rw [U_241_9]
        simp (disch := first | omega | assumption | exact rfl) only [U_241_11, XX, QQ, WW, KK, QX, SHs, RRs, Nat.reduceAdd, Nat.reduceMul, Nat.reduceLeDiff, Nat.reduceEqDiff, List.length_cons, List.length_nil, decide_true, decide_false, Bool.true_and, Bool.and_true, Bool.false_and, Bool.and_false, false_and, and_false, Bool.false_eq_true, Bool.true_eq_false, reduceCtorEq, eq_self, if_true, if_false, true_and, and_true, not_true_eq_false, not_false_eq_true, if_pos, if_neg, z_ite_not, false_or, or_false, true_or, or_true, SWs, swk_0, swk_1, fi, x1, x2]
        exact w0 _ _ _ _
      · intro j hj IH
        have j24 : j < 24 := by omega
        have jF : j < pop F := by omega
        have fj : I 194 j = nI 1 := by
          rw [← ef, hD j jF]
          have pj := pl_lt hj hi
          rw [h4 _ (by omega)]; rfl
        rw [U_241_9]
        simp (disch := first | omega | assumption | exact rfl) only [U_241_10, XX, QQ, WW, KK, QX, SHs, RRs, Nat.reduceAdd, Nat.reduceMul, Nat.reduceLeDiff, Nat.reduceEqDiff, List.length_cons, List.length_nil, decide_true, decide_false, Bool.true_and, Bool.and_true, Bool.false_and, Bool.and_false, false_and, and_false, Bool.false_eq_true, Bool.true_eq_false, reduceCtorEq, eq_self, if_true, if_false, true_and, and_true, not_true_eq_false, not_false_eq_true, if_pos, if_neg, z_ite_not, false_or, or_false, true_or, or_true, SWs, swk_0, swk_1, fj]
        exact IH
    have st := fst 0 (Nat.zero_le _)
    simp (disch := first | omega | assumption | exact rfl) only [U_241_0, U_241_5, U_241_6, U_241_8, XX, QQ, WW, KK, QX, SHs, RRs, Nat.reduceAdd, Nat.reduceMul, Nat.reduceLeDiff, Nat.reduceEqDiff, List.length_cons, List.length_nil, decide_true, decide_false, Bool.true_and, Bool.and_true, Bool.false_and, Bool.and_false, false_and, and_false, Bool.false_eq_true, Bool.true_eq_false, reduceCtorEq, eq_self, if_true, if_false, true_and, and_true, not_true_eq_false, not_false_eq_true, if_pos, if_neg, z_ite_not, false_or, or_false, true_or, or_true, SWs, swk_0, swk_1, nl, k1, er, i6]
    exact st
