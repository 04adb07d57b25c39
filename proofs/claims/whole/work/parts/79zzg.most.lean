/-! ===== parting: the most couples (pure), and the class ===== -/
noncomputable def moB (f : Nat → Nat) (R P Sr Sa : Nat) : Nat := if Sa = 0 then (if Sr = 0 then f (rmS R P) else 1 + f (rmS (rmS R P) Sr)) else (if (if Sr = 0 then 0 else 1 + f (rmS (rmS R P) Sr)) < 1 + f (rmS (rmS R P) Sa) then 1 + f (rmS (rmS R P) Sa) else (if Sr = 0 then 0 else 1 + f (rmS (rmS R P) Sr)))
noncomputable def mo : Nat → Nat → Nat
  | 0, _ => 0
  | n + 1, R => if R = 0 then 0 else moB (mo n) R (2 ^ lbp R) (R &&& rtN (2 ^ lbp R)) (R &&& upN (2 ^ lbp R) 8)
theorem and_c {R S : Nat} (hs : S = 0 ∨ ∃ q, S = 2 ^ q) : R &&& S = 0 ∨ ∃ q, R &&& S = 2 ^ q ∧ S = 2 ^ q ∧ R.testBit q = true := by
  rcases hs with z | ⟨q, z⟩
  · left; rw [z, Nat.and_zero]
  · cases c : R.testBit q with
    | false => left; rw [z]; exact (fb_bit_nat R q).mpr c
    | true =>
      right
      refine ⟨q, ?_, z, c⟩
      rw [z]
      refine nat_ext (fun k => ?_)
      rw [Nat.testBit_and, Bool.and_eq_true, Nat.testBit_two_pow, decide_eq_true_iff]
      constructor
      · exact fun h => h.2
      · intro h; subst h; exact ⟨c, rfl⟩
theorem pop_rm1 {R p : Nat} (hR : R < 2 ^ 64) (hp : R.testBit p = true) : pop (rmS R (2 ^ p)) < pop R := by have := rmS_pop hR hp; omega
theorem pop_rm2 {R P S : Nat} : pop (rmS (rmS R P) S) ≤ pop (rmS R P) := fb_ct_sub (fun k _ h => ((rmS_tb rmS_lt).mp h).1)
theorem moB_cg {f g : Nat → Nat} {R p Sr Sa m : Nat} (hR : R < 2 ^ 64) (hp : R.testBit p = true) (hm : pop R ≤ m + 1) (h : ∀ R', R' < 2 ^ 64 → pop R' ≤ m → f R' = g R') : moB f R (2 ^ p) Sr Sa = moB g R (2 ^ p) Sr Sa := by
  have a := pop_rm1 hR hp
  have b := pop_rm2 (R := R) (P := 2 ^ p) (S := Sr)
  have c := pop_rm2 (R := R) (P := 2 ^ p) (S := Sa)
  unfold moB
  rw [h _ rmS_lt (by omega), h (rmS (rmS R (2 ^ p)) Sr) rmS_lt (by omega), h (rmS (rmS R (2 ^ p)) Sa) rmS_lt (by omega)]
theorem mo_st : ∀ n R, R < 2 ^ 64 → pop R ≤ n → mo (n + 1) R = mo n R
  | 0, R, hR, h => by
    have z := (pop_z hR).mp (by omega)
    subst z
    unfold mo
    rw [if_pos rfl]
  | n + 1, R, hR, h => by
    by_cases z : R = 0
    · rw [mo, mo, if_pos z, if_pos z]
    · obtain ⟨h1, h2, _, _⟩ := low_p hR z
      rw [mo, if_neg z, moB_cg (f := mo (n + 1)) (g := mo n) hR h1 (m := n) h (fun R' a b => mo_st n R' a b)]
      rw [mo, if_neg z]
theorem mo_e {R : Nat} (hR : R < 2 ^ 64) (h : pop R ≤ 24) (z : R ≠ 0) : mo 24 R = moB (mo 24) R (2 ^ lbp R) (R &&& rtN (2 ^ lbp R)) (R &&& upN (2 ^ lbp R) 8) := by
  have e : mo 25 R = mo 24 R := mo_st 24 R hR h
  rw [← e, mo, if_neg z]
theorem mo_le : ∀ n R, mo n R ≤ n
  | 0, _ => Nat.le_refl _
  | n + 1, R => by
    unfold mo
    split
    · exact Nat.zero_le _
    · unfold moB
      have a := mo_le n (rmS R (2 ^ lbp R))
      have b := mo_le n (rmS (rmS R (2 ^ lbp R)) (R &&& rtN (2 ^ lbp R)))
      have c := mo_le n (rmS (rmS R (2 ^ lbp R)) (R &&& upN (2 ^ lbp R) 8))
      split
      · split <;> omega
      · split <;> split <;> omega
theorem c_most {X : Nat × (Nat → Int32)} : ∀ n (R dep d : Nat) (I : Nat → Nat → Int32) (J : Nat → Nat → Int64), R < 2 ^ 64 → pop R ≤ n → n ≤ 24 → dep + n ≤ 24 → n + 6 ≤ d → MI (mo 24) I J → ∃ I' J', callF X d 46 [.ref 158, .long (lN R), .int (nI dep)] (mk I J) = some (some (.int (nI (mo 24 R))), mk I' J') ∧ MI (mo 24) I' J' ∧ PF I I' J J' := by
  intro n
  have zero : ∀ (dep d : Nat) (I : Nat → Nat → Int32) (J : Nat → Nat → Int64), 6 ≤ d → MI (mo 24) I J → ∃ I' J', callF X d 46 [.ref 158, .long (lN 0), .int (nI dep)] (mk I J) = some (some (.int (nI (mo 24 0))), mk I' J') ∧ MI (mo 24) I' J' ∧ PF I I' J J' := fun dep d I J hd hM => by
    refine ⟨I, J, ?_, hM, PF_r⟩
    have e : mo 24 0 = 0 := by rw [mo, if_pos rfl]
    rw [e]
    refine callF_at (by omega) (by decide) (Nat.le_of_ble_eq_true rfl) (fun d _ => ?_)
    show Ev X d 46 0 [.ref 158, .long (lN 0), .retAddr 0, .int (nI dep), .retAddr 0, .retAddr 0, .retAddr 0, .retAddr 0, .retAddr 0, .retAddr 0, .retAddr 0, .retAddr 0] [] ( mk I J) _
    simp (disch := first | omega | assumption | exact rfl) only [U_46_0, U_46_2, XX, QQ, WW, KK, QX, SHs, RRs, Nat.reduceAdd, Nat.reduceMul, Nat.reduceLeDiff, Nat.reduceEqDiff, List.length_cons, List.length_nil, decide_true, decide_false, Bool.true_and, Bool.and_true, Bool.false_and, Bool.and_false, false_and, and_false, Bool.false_eq_true, Bool.true_eq_false, reduceCtorEq, eq_self, if_true, if_false, true_and, and_true, not_true_eq_false, not_false_eq_true, if_pos, if_neg, z_ite_not, false_or, or_false, true_or, or_true, SWs, swk_0, swk_1, lc0']
  induction n with
  | zero =>
    intro R dep d I J hR hp _ hdep hd hM
    have z := (pop_z hR).mp (by omega)
    subst z
    exact zero dep d I J (by omega) hM
  | succ n ih =>
    intro R dep d I J hR hp hn hdep hd hM
    by_cases z : R = 0
    · subst z
      exact zero dep d I J (by omega) hM
    · obtain ⟨d, rfl⟩ : ∃ d', d = d' + 1 := ⟨d - 1, by omega⟩
      obtain ⟨h1, h2, h3, _⟩ := low_p hR z
      have nz := fun t => z ((lc_z hR).mp t)
      have dl : dep ≤ 24 := by omega
      obtain ⟨sl, s1, s2⟩ := c_slotOf (X := X) (d := d) (I := I) (J := J) (R := R) (by omega) hR
      by_cases y : lg_cmp (J 159 sl) (lN R) = 0
      · have a := hM sl s1 R z hR (lc_eq.mp y)
        refine ⟨I, J, ?_, hM, PF_r⟩
        refine callF_at (by omega) (by decide) (Nat.le_of_ble_eq_true rfl) (fun d' hd' => ?_)
        obtain rfl : d = d' := by omega
        show Ev X d 46 0 [.ref 158, .long (lN R), .retAddr 0, .int (nI dep), .retAddr 0, .retAddr 0, .retAddr 0, .retAddr 0, .retAddr 0, .retAddr 0, .retAddr 0, .retAddr 0] [] (mk I J) _
        simp (disch := first | omega | assumption | exact rfl) only [U_46_0, U_46_1, U_46_3, U_46_4, XX, QQ, WW, KK, QX, SHs, RRs, Nat.reduceAdd, Nat.reduceMul, Nat.reduceLeDiff, Nat.reduceEqDiff, List.length_cons, List.length_nil, decide_true, decide_false, Bool.true_and, Bool.and_true, Bool.false_and, Bool.and_false, false_and, and_false, Bool.false_eq_true, Bool.true_eq_false, reduceCtorEq, eq_self, if_true, if_false, true_and, and_true, not_true_eq_false, not_false_eq_true, if_pos, if_neg, z_ite_not, false_or, or_false, true_or, or_true, SWs, swk_0, swk_1, nz, s2, y, a]
      · have P64 : 2 ^ lbp R < 2 ^ 64 := pw_lt h2
        have es := mo_e hR (by omega) z
        obtain ⟨p, ep⟩ : ∃ p, p = lbp R := ⟨_, rfl⟩
        rw [← ep] at h1 h2 h3 P64 es
        have hv : ∀ R, mo 24 R ≤ 24 := fun R => mo_le 24 R
        have a1 := pop_rm1 hR h1
        have r1 := fun M => s_rightOf (X := X) (d := d) (M := M) (x := 2 ^ p) (by omega) P64
        have q8 : lN (2 ^ p) <<< ((nI 8).toInt64 &&& 63) = lN (upN (2 ^ p) 8) := (wb_shl _ (by decide)).trans (wb_mod _)
        obtain ⟨Sr, eSr⟩ : ∃ S, S = R &&& rtN (2 ^ p) := ⟨_, rfl⟩
        obtain ⟨Sa, eSa⟩ : ∃ S, S = R &&& upN (2 ^ p) 8 := ⟨_, rfl⟩
        rw [← eSr, ← eSa] at es
        have r64 : Sr < 2 ^ 64 := by rw [eSr]; exact Nat.lt_of_le_of_lt Nat.and_le_left hR
        have a64 : Sa < 2 ^ 64 := by rw [eSa]; exact Nat.lt_of_le_of_lt Nat.and_le_left hR
        have lr : lN R &&& lN (rtN (2 ^ p)) = lN Sr := by rw [fb_andL, eSr]
        have la : lN R &&& lN (upN (2 ^ p) 8) = lN Sa := by rw [fb_andL, eSa]
        have e1 := rmS_l hR P64
        have e2 := rmS_l (R := rmS R (2 ^ p)) (Q := Sr) rmS_lt r64
        have e3 := rmS_l (R := rmS R (2 ^ p)) (Q := Sa) rmS_lt a64
        have b1 := pop_rm2 (R := R) (P := 2 ^ p) (S := Sr)
        have b2 := pop_rm2 (R := R) (P := 2 ^ p) (S := Sa)
        have zr : lg_cmp (lN Sr) (lN 0) = 0 ↔ Sr = 0 := lc_z r64
        have za : lg_cmp (lN Sa) (lN 0) = 0 ↔ Sa = 0 := lc_z a64
        have run : ∀ r, Ev X d 46 5 [.ref 158, .long (lN R), .retAddr 0, .int (nI dep), .int (nI sl), .retAddr 0, .retAddr 0, .retAddr 0, .retAddr 0, .retAddr 0, .retAddr 0, .retAddr 0] [] (mk I J) r → Ev X d 46 0 [.ref 158, .long (lN R), .retAddr 0, .int (nI dep), .retAddr 0, .retAddr 0, .retAddr 0, .retAddr 0, .retAddr 0, .retAddr 0, .retAddr 0, .retAddr 0] [] (mk I J) r := fun r H => by
          simp (disch := first | omega | assumption | exact rfl) only [U_46_0, U_46_1, U_46_3, XX, QQ, WW, KK, QX, SHs, RRs, Nat.reduceAdd, Nat.reduceMul, Nat.reduceLeDiff, Nat.reduceEqDiff, List.length_cons, List.length_nil, decide_true, decide_false, Bool.true_and, Bool.and_true, Bool.false_and, Bool.and_false, false_and, and_false, Bool.false_eq_true, Bool.true_eq_false, reduceCtorEq, eq_self, if_true, if_false, true_and, and_true, not_true_eq_false, not_false_eq_true, if_pos, if_neg, z_ite_not, false_or, or_false, true_or, or_true, SWs, swk_0, swk_1, nz, s2, y]
          exact H
        -- the end: what was found is kept
        have fin : ∀ (I1 : Nat → Nat → Int32) (J1 : Nat → Nat → Int64) (v : Nat), v = mo 24 R → MI (mo 24) I1 J1 → PF I I1 J J1 → ∃ I' J', Ev X d 46 12 [.ref 158, .long (lN R), .retAddr 0, .int (nI dep), .int (nI sl), .long (lN (2 ^ p)), .retAddr 0, .long (lN Sr), .retAddr 0, .long (lN Sa), .retAddr 0, .int (nI v)] [] (mk I1 J1) (some (.int (nI (mo 24 R))), mk I' J') ∧ MI (mo 24) I' J' ∧ PF I I' J J' := fun I1 J1 v ev m1 f1 => by
          obtain ⟨I', J', k1, k2, k3⟩ := c_keep (X := X) (d := d) (I := I1) (J := J1) (v := mo 24) (R := R) (by omega) hR m1
          rw [← ev] at k1 ⊢
          refine ⟨I', J', ?_, k2, PF_t f1 k3⟩
          simp (disch := first | omega | assumption | exact rfl) only [U_46_12, XX, QQ, WW, KK, QX, SHs, RRs, Nat.reduceAdd, Nat.reduceMul, Nat.reduceLeDiff, Nat.reduceEqDiff, List.length_cons, List.length_nil, decide_true, decide_false, Bool.true_and, Bool.and_true, Bool.false_and, Bool.and_false, false_and, and_false, Bool.false_eq_true, Bool.true_eq_false, reduceCtorEq, eq_self, if_true, if_false, true_and, and_true, not_true_eq_false, not_false_eq_true, if_pos, if_neg, z_ite_not, false_or, or_false, true_or, or_true, SWs, swk_0, swk_1, k1]
        have done : (∃ I' J', Ev X d 46 5 [.ref 158, .long (lN R), .retAddr 0, .int (nI dep), .int (nI sl), .retAddr 0, .retAddr 0, .retAddr 0, .retAddr 0, .retAddr 0, .retAddr 0, .retAddr 0] [] (mk I J) (some (.int (nI (mo 24 R))), mk I' J') ∧ MI (mo 24) I' J' ∧ PF I I' J J') → ∃ I' J', callF X (d + 1) 46 [.ref 158, .long (lN R), .int (nI dep)] (mk I J) = some (some (.int (nI (mo 24 R))), mk I' J') ∧ MI (mo 24) I' J' ∧ PF I I' J J' := fun ⟨I', J', x1, x2, x3⟩ => by
          refine ⟨I', J', ?_, x2, x3⟩
          refine callF_at (by omega) (by decide) (Nat.le_of_ble_eq_true rfl) (fun d' hd' => ?_)
          obtain rfl : d = d' := by omega
          exact run _ x1
        refine done ?_
        unfold moB at es
        by_cases c1 : Sr = 0
        · have zr1 := zr.mpr c1
          by_cases c2 : Sa = 0
          · have za1 := za.mpr c2
            rw [if_pos c2, if_pos c1] at es
            obtain ⟨I1, J1, t1, t2, t3⟩ := ih (rmS R (2 ^ p)) (dep + 1) d I J rmS_lt (by omega) (by omega) (by omega) (by omega) hM
            have v1 := hv (rmS R (2 ^ p))
            obtain ⟨I', J', x1, x2, x3⟩ := fin I1 J1 (mo 24 (rmS R (2 ^ p))) es.symm t2 t3
            refine ⟨I', J', ?_, x2, x3⟩
            simp (disch := first | omega | assumption | exact rfl) only [U_46_5, U_46_6, U_46_7, U_46_8, U_46_10, XX, QQ, WW, KK, QX, SHs, RRs, Nat.reduceAdd, Nat.reduceMul, Nat.reduceLeDiff, Nat.reduceEqDiff, List.length_cons, List.length_nil, decide_true, decide_false, Bool.true_and, Bool.and_true, Bool.false_and, Bool.and_false, false_and, and_false, Bool.false_eq_true, Bool.true_eq_false, reduceCtorEq, eq_self, if_true, if_false, true_and, and_true, not_true_eq_false, not_false_eq_true, if_pos, if_neg, z_ite_not, false_or, or_false, true_or, or_true, SWs, swk_0, swk_1, h3, r1, lr, q8, la, zr1, za1, e1, t1]
            exact x1
          · have za1 : ¬ lg_cmp (lN Sa) (lN 0) = 0 := fun q => c2 (za.mp q)
            rw [if_neg c2, if_pos c1, if_pos (by omega)] at es
            obtain ⟨I1, J1, t1, t2, t3⟩ := ih (rmS (rmS R (2 ^ p)) Sa) (dep + 1) d I J rmS_lt (by omega) (by omega) (by omega) (by omega) hM
            have v1 := hv (rmS (rmS R (2 ^ p)) Sa)
            obtain ⟨I', J', x1, x2, x3⟩ := fin I1 J1 (1 + mo 24 (rmS (rmS R (2 ^ p)) Sa)) es.symm t2 t3
            obtain ⟨V, eV⟩ : ∃ V, V = mo 24 (rmS (rmS R (2 ^ p)) Sa) := ⟨_, rfl⟩
            rw [← eV] at t1 v1 x1
            refine ⟨I', J', ?_, x2, x3⟩
            have lt1 : 0 < 1 + V := by omega
            simp (disch := first | omega | assumption | exact rfl) only [U_46_5, U_46_6, U_46_8, U_46_10, U_46_11, XX, QQ, WW, KK, QX, SHs, RRs, Nat.reduceAdd, Nat.reduceMul, Nat.reduceLeDiff, Nat.reduceEqDiff, List.length_cons, List.length_nil, decide_true, decide_false, Bool.true_and, Bool.and_true, Bool.false_and, Bool.and_false, false_and, and_false, Bool.false_eq_true, Bool.true_eq_false, reduceCtorEq, eq_self, if_true, if_false, true_and, and_true, not_true_eq_false, not_false_eq_true, if_pos, if_neg, z_ite_not, false_or, or_false, true_or, or_true, SWs, swk_0, swk_1, h3, r1, lr, q8, la, zr1, za1, e1, e3, t1, lt1]
            exact x1
        · have zr1 : ¬ lg_cmp (lN Sr) (lN 0) = 0 := fun q => c1 (zr.mp q)
          obtain ⟨I1, J1, t1, t2, t3⟩ := ih (rmS (rmS R (2 ^ p)) Sr) (dep + 1) d I J rmS_lt (by omega) (by omega) (by omega) (by omega) hM
          have v1 := hv (rmS (rmS R (2 ^ p)) Sr)
          by_cases c2 : Sa = 0
          · have za1 := za.mpr c2
            rw [if_pos c2, if_neg c1] at es
            obtain ⟨I', J', x1, x2, x3⟩ := fin I1 J1 (1 + mo 24 (rmS (rmS R (2 ^ p)) Sr)) es.symm t2 t3
            obtain ⟨V, eV⟩ : ∃ V, V = mo 24 (rmS (rmS R (2 ^ p)) Sr) := ⟨_, rfl⟩
            rw [← eV] at t1 v1 x1
            refine ⟨I', J', ?_, x2, x3⟩
            simp (disch := first | omega | assumption | exact rfl) only [U_46_5, U_46_8, U_46_9, U_46_10, XX, QQ, WW, KK, QX, SHs, RRs, Nat.reduceAdd, Nat.reduceMul, Nat.reduceLeDiff, Nat.reduceEqDiff, List.length_cons, List.length_nil, decide_true, decide_false, Bool.true_and, Bool.and_true, Bool.false_and, Bool.and_false, false_and, and_false, Bool.false_eq_true, Bool.true_eq_false, reduceCtorEq, eq_self, if_true, if_false, true_and, and_true, not_true_eq_false, not_false_eq_true, if_pos, if_neg, z_ite_not, false_or, or_false, true_or, or_true, SWs, swk_0, swk_1, h3, r1, lr, q8, la, zr1, za1, e1, e2, t1]
            exact x1
          · have za1 : ¬ lg_cmp (lN Sa) (lN 0) = 0 := fun q => c2 (za.mp q)
            rw [if_neg c2, if_neg c1] at es
            obtain ⟨I2, J2, w1, w2, w3⟩ := ih (rmS (rmS R (2 ^ p)) Sa) (dep + 1) d I1 J1 rmS_lt (by omega) (by omega) (by omega) (by omega) t2
            have v2 := hv (rmS (rmS R (2 ^ p)) Sa)
            obtain ⟨I', J', x1, x2, x3⟩ := fin I2 J2 _ es.symm w2 (PF_t t3 w3)
            obtain ⟨V, eV⟩ : ∃ V, V = mo 24 (rmS (rmS R (2 ^ p)) Sr) := ⟨_, rfl⟩
            obtain ⟨V2, eV2⟩ : ∃ V, V = mo 24 (rmS (rmS R (2 ^ p)) Sa) := ⟨_, rfl⟩
            rw [← eV] at t1 v1 x1
            rw [← eV2] at w1 v2 x1
            refine ⟨I', J', ?_, x2, x3⟩
            by_cases g : 1 + V < 1 + V2
            · rw [if_pos g] at x1
              simp (disch := first | omega | assumption | exact rfl) only [U_46_5, U_46_8, U_46_9, U_46_10, U_46_11, XX, QQ, WW, KK, QX, SHs, RRs, Nat.reduceAdd, Nat.reduceMul, Nat.reduceLeDiff, Nat.reduceEqDiff, List.length_cons, List.length_nil, decide_true, decide_false, Bool.true_and, Bool.and_true, Bool.false_and, Bool.and_false, false_and, and_false, Bool.false_eq_true, Bool.true_eq_false, reduceCtorEq, eq_self, if_true, if_false, true_and, and_true, not_true_eq_false, not_false_eq_true, if_pos, if_neg, z_ite_not, false_or, or_false, true_or, or_true, SWs, swk_0, swk_1, h3, r1, lr, q8, la, zr1, za1, e1, e2, e3, t1, w1, g]
              exact x1
            · rw [if_neg g] at x1
              simp (disch := first | omega | assumption | exact rfl) only [U_46_5, U_46_8, U_46_9, U_46_10, U_46_11, XX, QQ, WW, KK, QX, SHs, RRs, Nat.reduceAdd, Nat.reduceMul, Nat.reduceLeDiff, Nat.reduceEqDiff, List.length_cons, List.length_nil, decide_true, decide_false, Bool.true_and, Bool.and_true, Bool.false_and, Bool.and_false, false_and, and_false, Bool.false_eq_true, Bool.true_eq_false, reduceCtorEq, eq_self, if_true, if_false, true_and, and_true, not_true_eq_false, not_false_eq_true, if_pos, if_neg, z_ite_not, false_or, or_false, true_or, or_true, SWs, swk_0, swk_1, h3, r1, lr, q8, la, zr1, za1, e1, e2, e3, t1, w1, g]
              exact x1
theorem c_mostCouples {X : Nat × (Nat → Int32)} {d : Nat} {I : Nat → Nat → Int32} {J : Nat → Nat → Int64} {R : Nat} (hd : 40 ≤ d) (hR : R < 2 ^ 64) (hp : pop R ≤ 24) : ∃ I' J', callF X d 43 [.ref 158, .long (lN R)] (mk I J) = some (some (.int (nI (mo 24 R))), mk I' J') ∧ PF I I' J J' := by
  obtain ⟨d, rfl⟩ : ∃ d', d = d' + 1 := ⟨d - 1, by omega⟩
  have fl : callF X d 263 [.ref 159, .long (lN 0)] (mk I J) = some (none, mk I (va_up J 159 (fillJ 8192 (lN 0) (J 159)))) := s_fillL (X := X) (d := d) (M := mk I J) (a := 159) (n := 8192) (by omega) rfl (by decide)
  obtain ⟨I1, J1, h1, h2, h3⟩ := c_most (X := X) 24 R 0 d I (va_up J 159 (fillJ 8192 (lN 0) (J 159))) hR hp (by decide) (by decide) (by omega) (fun s hs R' n0 hR' e => by
    rw [vu_eq] at e
    unfold fillJ at e
    rw [if_pos hs] at e
    exact absurd ((lN_e64 (by decide) hR').mp e).symm n0)
  refine ⟨I1, J1, ?_, ⟨h3.1, fun a ha => by rw [h3.2 a ha, vu_ne ha]⟩⟩
  refine callF_at (by omega) (by decide) (Nat.le_of_ble_eq_true rfl) (fun d' hd' => ?_)
  obtain rfl : d = d' := by omega
  show Ev X d 43 0 [.ref 158, .long (lN R), .retAddr 0] [] (mk I J) _
  simp (disch := first | omega | assumption | exact rfl) only [U_43_0, XX, QQ, WW, KK, QX, SHs, RRs, Nat.reduceAdd, Nat.reduceMul, Nat.reduceLeDiff, Nat.reduceEqDiff, List.length_cons, List.length_nil, decide_true, decide_false, Bool.true_and, Bool.and_true, Bool.false_and, Bool.and_false, false_and, and_false, Bool.false_eq_true, Bool.true_eq_false, reduceCtorEq, eq_self, if_true, if_false, true_and, and_true, not_true_eq_false, not_false_eq_true, if_pos, if_neg, z_ite_not, false_or, or_false, true_or, or_true, SWs, swk_0, swk_1, fl, h1]
