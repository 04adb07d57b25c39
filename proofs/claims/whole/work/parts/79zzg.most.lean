/-! ===== parting: the most couples (pure), and the class ===== -/
/-- the places of A that touch another one of it -/
noncomputable def trm (A : Nat) : Nat := A &&& arN A
theorem trm_lt {A : Nat} (hA : A < 2 ^ 64) : trm A < 2 ^ 64 := Nat.lt_of_le_of_lt Nat.and_le_left hA
theorem trm_el {A k : Nat} (h : (trm A).testBit k = true) : A.testBit k = true ∧ ∃ p, p < 64 ∧ A.testBit p = true ∧ adj p k := by
  unfold trm at h
  rw [Nat.testBit_and, Bool.and_eq_true] at h
  obtain ⟨a, b⟩ := h
  unfold arN at b
  rw [b64_tb] at b
  exact ⟨a, b.2⟩
theorem trm_in {A k p : Nat} (hA : A < 2 ^ 64) (a : A.testBit k = true) (b : A.testBit p = true) (c : adj p k) : (trm A).testBit k = true := by
  unfold trm
  rw [Nat.testBit_and, Bool.and_eq_true]
  refine ⟨a, ?_⟩
  unfold arN
  rw [b64_tb]
  exact ⟨tb_lt hA a, p, tb_lt hA b, b, c⟩
theorem trm_pop {A : Nat} : pop (trm A) ≤ pop A := fb_ct_sub (fun k _ h => (trm_el h).1)
noncomputable def mw (f : Nat → Nat) (R P T : Nat) : Nat := if R &&& T = 0 then 0 else 1 + f (rmS (rmS R P) T)
def mx2 (a b : Nat) : Nat := if a < b then b else a
noncomputable def moB (f : Nat → Nat) (R : Nat) : Nat := mx2 (mw f R (2 ^ lbp R) (rtN (2 ^ lbp R))) (mw f R (2 ^ lbp R) (upN (2 ^ lbp R) 8))
noncomputable def mo : Nat → Nat → Nat
  | 0, _ => 0
  | n + 1, A => if trm A = 0 then 0 else moB (mo n) (trm A)
theorem and_c {R S : Nat} (hs : S = 0 ∨ ∃ q, S = 2 ^ q) : R &&& S = 0 ∨ ∃ q, R &&& S = 2 ^ q ∧ S = 2 ^ q ∧ R.testBit q = true := by
  rcases hs with z | ⟨q, z⟩
  · left; rw [z, Nat.and_zero]
  · cases c : R.testBit q with
    | false => left; rw [z]; exact (fb_bit_nat R q).mpr c
    | true =>
      right
      refine ⟨q, ?_, z, c⟩
      rw [z]
      refine nat_ext (fun k => ?_)
      rw [Nat.testBit_and, Bool.and_eq_true, Nat.testBit_two_pow, decide_eq_true_iff]
      constructor
      · exact fun h => h.2
      · intro h; subst h; exact ⟨c, rfl⟩
theorem pop_rm1 {R p : Nat} (hR : R < 2 ^ 64) (hp : R.testBit p = true) : pop (rmS R (2 ^ p)) < pop R := by have := rmS_pop hR hp; omega
theorem pop_rm2 {R P S : Nat} : pop (rmS (rmS R P) S) ≤ pop (rmS R P) := fb_ct_sub (fun k _ h => ((rmS_tb rmS_lt).mp h).1)
theorem mw_cg {f g : Nat → Nat} {R p T m : Nat} (hR : R < 2 ^ 64) (hp : R.testBit p = true) (hm : pop R ≤ m + 1) (h : ∀ R', R' < 2 ^ 64 → pop R' ≤ m → f R' = g R') : mw f R (2 ^ p) T = mw g R (2 ^ p) T := by
  have a := pop_rm1 hR hp
  have b := pop_rm2 (R := R) (P := 2 ^ p) (S := T)
  unfold mw
  rw [h (rmS (rmS R (2 ^ p)) T) rmS_lt (by omega)]
theorem mo_st : ∀ n A, A < 2 ^ 64 → pop A ≤ n → mo (n + 1) A = mo n A
  | 0, A, hA, h => by
    have z := (pop_z hA).mp (by omega)
    subst z
    have t : trm 0 = 0 := Nat.zero_and _
    unfold mo
    rw [if_pos t]
  | n + 1, A, hA, h => by
    by_cases z : trm A = 0
    · rw [mo, mo, if_pos z, if_pos z]
    · have h64 := trm_lt hA
      have hp := trm_pop (A := A)
      obtain ⟨h1, h2, _, _⟩ := low_p h64 z
      have e : moB (mo (n + 1)) (trm A) = moB (mo n) (trm A) := by
        unfold moB
        rw [mw_cg (f := mo (n + 1)) (g := mo n) h64 h1 (m := n) (by omega) (fun R' a b => mo_st n R' a b), mw_cg (f := mo (n + 1)) (g := mo n) h64 h1 (m := n) (by omega) (fun R' a b => mo_st n R' a b)]
      rw [mo, if_neg z, e, mo, if_neg z]
theorem mo_e {A : Nat} (hA : A < 2 ^ 64) (h : pop A ≤ 24) (z : trm A ≠ 0) : mo 24 A = moB (mo 24) (trm A) := by
  have e : mo 25 A = mo 24 A := mo_st 24 A hA h
  rw [← e, mo, if_neg z]
theorem mo_0 {A : Nat} (z : trm A = 0) : mo 24 A = 0 := by rw [mo, if_pos z]
theorem mw_le {f : Nat → Nat} {R P T n : Nat} (h : ∀ R, f R ≤ n) : mw f R P T ≤ n + 1 := by
  unfold mw
  have := h (rmS (rmS R P) T)
  split <;> omega
theorem mo_le : ∀ n R, mo n R ≤ n
  | 0, _ => Nat.le_refl _
  | n + 1, A => by
    unfold mo
    split
    · exact Nat.zero_le _
    · unfold moB mx2
      have a := mw_le (R := trm A) (P := 2 ^ lbp (trm A)) (T := rtN (2 ^ lbp (trm A))) (mo_le n)
      have b := mw_le (R := trm A) (P := 2 ^ lbp (trm A)) (T := upN (2 ^ lbp (trm A)) 8) (mo_le n)
      split <;> omega
theorem c_mw {X : Nat × (Nat → Int32)} {d : Nat} {I : Nat → Nat → Int32} {J : Nat → Nat → Int64} {R p T dep n : Nat} (hR : R < 2 ^ 64) (hp : R.testBit p = true) (hT : T < 2 ^ 64) (hd : 1 ≤ d) (hdep : dep < 24) (hn : pop R ≤ n + 1) (hM : MI (moB (mo 24)) I J)
    (IH : ∀ R' (I : Nat → Nat → Int32) (J : Nat → Nat → Int64), R' < 2 ^ 64 → pop R' ≤ n → MI (moB (mo 24)) I J → ∃ I' J', callF X (d - 1) 46 [.ref 158, .long (lN R'), .int (nI (dep + 1))] (mk I J) = some (some (.int (nI (mo 24 R'))), mk I' J') ∧ MI (moB (mo 24)) I' J' ∧ PF I I' J J') :
    ∃ I' J', callF X d 267 [.ref 158, .long (lN R), .long (lN (2 ^ p)), .long (lN T), .int (nI dep)] (mk I J) = some (some (.int (nI (mw (mo 24) R (2 ^ p) T))), mk I' J') ∧ MI (moB (mo 24)) I' J' ∧ PF I I' J J' := by
  obtain ⟨d, rfl⟩ : ∃ d', d = d' + 1 := ⟨d - 1, by omega⟩
  rw [Nat.add_sub_cancel] at IH
  have p64 := tb_lt hR hp
  have aT : R &&& T < 2 ^ 64 := Nat.lt_of_le_of_lt Nat.and_le_left hR
  have hP : 2 ^ p < 2 ^ 64 := pw_lt p64
  have e1 := rmS_l hR hP
  have e2 := rmS_l (R := rmS R (2 ^ p)) (Q := T) rmS_lt hT
  by_cases z : R &&& T = 0
  · have ea : mw (mo 24) R (2 ^ p) T = 0 := by unfold mw; rw [if_pos z]
    rw [ea]
    refine ⟨I, J, ?_, hM, PF_r⟩
    refine callF_at (by omega) (by decide) (Nat.le_of_ble_eq_true rfl) (fun d' hd' => ?_)
    obtain rfl : d = d' := by omega
    show Ev X d 267 0 [.ref 158, .long (lN R), .retAddr 0, .long (lN (2 ^ p)), .retAddr 0, .long (lN T), .retAddr 0, .int (nI dep)] [] (mk I J) _
    have zz := (lc_z aT).mpr z
    simp (disch := first | omega | assumption | exact rfl) only [U_267_0, U_267_1, U_267_3, XX, QQ, WW, KK, QX, SHs, RRs, Nat.reduceAdd, Nat.reduceMul, Nat.reduceLeDiff, Nat.reduceEqDiff, List.length_cons, List.length_nil, decide_true, decide_false, Bool.true_and, Bool.and_true, Bool.false_and, Bool.and_false, false_and, and_false, Bool.false_eq_true, Bool.true_eq_false, reduceCtorEq, eq_self, if_true, if_false, true_and, and_true, not_true_eq_false, not_false_eq_true, if_pos, if_neg, z_ite_not, false_or, or_false, true_or, or_true, SWs, swk_0, swk_1, fb_andL, zz]
  · have nz : ¬ lg_cmp (lN (R &&& T)) (lN 0) = 0 := fun t => z ((lc_z aT).mp t)
    have p1 := pop_rm1 hR hp
    have p2 := pop_rm2 (R := R) (P := 2 ^ p) (S := T)
    obtain ⟨I1, J1, t1, t2, t3⟩ := IH (rmS (rmS R (2 ^ p)) T) I J rmS_lt (by omega) hM
    have v1 := mo_le 24 (rmS (rmS R (2 ^ p)) T)
    have ea : mw (mo 24) R (2 ^ p) T = 1 + mo 24 (rmS (rmS R (2 ^ p)) T) := by unfold mw; rw [if_neg z]
    rw [ea]
    refine ⟨I1, J1, ?_, t2, t3⟩
    refine callF_at (by omega) (by decide) (Nat.le_of_ble_eq_true rfl) (fun d' hd' => ?_)
    obtain rfl : d = d' := by omega
    show Ev X d 267 0 [.ref 158, .long (lN R), .retAddr 0, .long (lN (2 ^ p)), .retAddr 0, .long (lN T), .retAddr 0, .int (nI dep)] [] (mk I J) _
    obtain ⟨V, eV⟩ : ∃ V, V = mo 24 (rmS (rmS R (2 ^ p)) T) := ⟨_, rfl⟩
    rw [← eV] at t1 v1 ⊢
    have la : lN R &&& lN T = lN (R &&& T) := fb_andL R T
    simp (disch := first | omega | assumption | exact rfl) only [U_267_0, U_267_2, U_267_3, XX, QQ, WW, KK, QX, SHs, RRs, Nat.reduceAdd, Nat.reduceMul, Nat.reduceLeDiff, Nat.reduceEqDiff, List.length_cons, List.length_nil, decide_true, decide_false, Bool.true_and, Bool.and_true, Bool.false_and, Bool.and_false, false_and, and_false, Bool.false_eq_true, Bool.true_eq_false, reduceCtorEq, eq_self, if_true, if_false, true_and, and_true, not_true_eq_false, not_false_eq_true, if_pos, if_neg, z_ite_not, false_or, or_false, true_or, or_true, SWs, swk_0, swk_1, la, nz, e1, e2, t1]
theorem c_most {X : Nat × (Nat → Int32)} : ∀ n (A dep d : Nat) (I : Nat → Nat → Int32) (J : Nat → Nat → Int64), A < 2 ^ 64 → pop A ≤ n → n ≤ 24 → dep + n ≤ 24 → 2 * n + 8 ≤ d → MI (moB (mo 24)) I J → ∃ I' J', callF X d 46 [.ref 158, .long (lN A), .int (nI dep)] (mk I J) = some (some (.int (nI (mo 24 A))), mk I' J') ∧ MI (moB (mo 24)) I' J' ∧ PF I I' J J' := by
  intro n
  have zero : ∀ (A dep d : Nat) (I : Nat → Nat → Int32) (J : Nat → Nat → Int64), 6 ≤ d → A < 2 ^ 64 → trm A = 0 → MI (moB (mo 24)) I J → ∃ I' J', callF X d 46 [.ref 158, .long (lN A), .int (nI dep)] (mk I J) = some (some (.int (nI (mo 24 A))), mk I' J') ∧ MI (moB (mo 24)) I' J' ∧ PF I I' J J' := fun A dep d I J hd hA z hM => by
    refine ⟨I, J, ?_, hM, PF_r⟩
    rw [mo_0 z]
    obtain ⟨d, rfl⟩ : ∃ d', d = d' + 1 := ⟨d - 1, by omega⟩
    have ar := s_around (X := X) (d := d) (M := mk I J) (by omega) hA
    have la : lN A &&& lN (arN A) = lN 0 := by rw [fb_andL]; show lN (trm A) = _; rw [z]
    refine callF_at (by omega) (by decide) (Nat.le_of_ble_eq_true rfl) (fun d' hd' => ?_)
    obtain rfl : d = d' := by omega
    show Ev X d 46 0 [.ref 158, .long (lN A), .retAddr 0, .int (nI dep), .retAddr 0, .retAddr 0, .retAddr 0, .retAddr 0, .retAddr 0, .retAddr 0] [] (mk I J) _
    simp (disch := first | omega | assumption | exact rfl) only [U_46_0, U_46_2, XX, QQ, WW, KK, QX, SHs, RRs, Nat.reduceAdd, Nat.reduceMul, Nat.reduceLeDiff, Nat.reduceEqDiff, List.length_cons, List.length_nil, decide_true, decide_false, Bool.true_and, Bool.and_true, Bool.false_and, Bool.and_false, false_and, and_false, Bool.false_eq_true, Bool.true_eq_false, reduceCtorEq, eq_self, if_true, if_false, true_and, and_true, not_true_eq_false, not_false_eq_true, if_pos, if_neg, z_ite_not, false_or, or_false, true_or, or_true, SWs, swk_0, swk_1, ar, la, lc0']
  induction n with
  | zero =>
    intro A dep d I J hA hp _ hdep hd hM
    have z := (pop_z hA).mp (by omega)
    subst z
    exact zero 0 dep d I J (by omega) (by decide) (Nat.zero_and _) hM
  | succ n ih =>
    intro A dep d I J hA hp hn hdep hd hM
    by_cases z : trm A = 0
    · exact zero A dep d I J (by omega) hA z hM
    · obtain ⟨d, rfl⟩ : ∃ d', d = d' + 1 := ⟨d - 1, by omega⟩
      have hR := trm_lt hA
      have tp := trm_pop (A := A)
      have es := mo_e hA (by omega) z
      have la : lN A &&& lN (arN A) = lN (trm A) := fb_andL A (arN A)
      have ar := s_around (X := X) (d := d) (M := mk I J) (by omega) hA
      obtain ⟨R, eR⟩ : ∃ R, R = trm A := ⟨_, rfl⟩
      rw [← eR] at z hR tp es la
      rw [es]
      obtain ⟨h1, h2, h3, _⟩ := low_p hR z
      have nz := fun t => z ((lc_z hR).mp t)
      have dl : dep ≤ 24 := by omega
      obtain ⟨sl, s1, s2⟩ := c_slotOf (X := X) (d := d) (I := I) (J := J) (R := R) (by omega) hR
      by_cases y : lg_cmp (J 159 sl) (lN R) = 0
      · have a := hM sl s1 R z hR (lc_eq.mp y)
        refine ⟨I, J, ?_, hM, PF_r⟩
        refine callF_at (by omega) (by decide) (Nat.le_of_ble_eq_true rfl) (fun d' hd' => ?_)
        obtain rfl : d = d' := by omega
        show Ev X d 46 0 [.ref 158, .long (lN A), .retAddr 0, .int (nI dep), .retAddr 0, .retAddr 0, .retAddr 0, .retAddr 0, .retAddr 0, .retAddr 0] [] (mk I J) _
        simp (disch := first | omega | assumption | exact rfl) only [U_46_0, U_46_1, U_46_3, U_46_4, XX, QQ, WW, KK, QX, SHs, RRs, Nat.reduceAdd, Nat.reduceMul, Nat.reduceLeDiff, Nat.reduceEqDiff, List.length_cons, List.length_nil, decide_true, decide_false, Bool.true_and, Bool.and_true, Bool.false_and, Bool.and_false, false_and, and_false, Bool.false_eq_true, Bool.true_eq_false, reduceCtorEq, eq_self, if_true, if_false, true_and, and_true, not_true_eq_false, not_false_eq_true, if_pos, if_neg, z_ite_not, false_or, or_false, true_or, or_true, SWs, swk_0, swk_1, ar, la, nz, s2, y, a]
      · have P64 : 2 ^ lbp R < 2 ^ 64 := pw_lt h2
        obtain ⟨p, ep⟩ : ∃ p, p = lbp R := ⟨_, rfl⟩
        have eB : moB (mo 24) R = mx2 (mw (mo 24) R (2 ^ p) (rtN (2 ^ p))) (mw (mo 24) R (2 ^ p) (upN (2 ^ p) 8)) := by rw [ep]; rfl
        rw [← ep] at h1 h2 h3 P64
        have r1 := fun M => s_rightOf (X := X) (d := d) (M := M) (x := 2 ^ p) (by omega) P64
        have q8 : lN (2 ^ p) <<< ((nI 8).toInt64 &&& 63) = lN (upN (2 ^ p) 8) := (wb_shl _ (by decide)).trans (wb_mod _)
        have r64 : rtN (2 ^ p) < 2 ^ 64 := by
          rw [rtN_pw h2]; split
          · exact pw_lt (by omega)
          · decide
        have u64 : upN (2 ^ p) 8 < 2 ^ 64 := Nat.mod_lt _ (by decide)
        have IH : ∀ R' (I : Nat → Nat → Int32) (J : Nat → Nat → Int64), R' < 2 ^ 64 → pop R' ≤ n → MI (moB (mo 24)) I J → ∃ I' J', callF X (d - 1) 46 [.ref 158, .long (lN R'), .int (nI (dep + 1))] (mk I J) = some (some (.int (nI (mo 24 R'))), mk I' J') ∧ MI (moB (mo 24)) I' J' ∧ PF I I' J J' := fun R' I J a b c => ih R' (dep + 1) (d - 1) I J a b (by omega) (by omega) (by omega) c
        obtain ⟨I1, J1, t1, t2, t3⟩ := c_mw (X := X) (d := d) hR h1 r64 (by omega) (by omega) (by omega) hM IH
        obtain ⟨I2, J2, w1, w2, w3⟩ := c_mw (X := X) (d := d) hR h1 u64 (by omega) (by omega) (by omega) t2 IH
        obtain ⟨I3, J3, k1, k2, k3⟩ := c_keep (X := X) (d := d) (I := I2) (J := J2) (v := moB (mo 24)) (R := R) (by omega) hR w2
        refine ⟨I3, J3, ?_, k2, PF_t t3 (PF_t w3 k3)⟩
        have va := mw_le (R := R) (P := 2 ^ p) (T := rtN (2 ^ p)) (mo_le 24)
        have vb := mw_le (R := R) (P := 2 ^ p) (T := upN (2 ^ p) 8) (mo_le 24)
        rw [eB] at k1 ⊢
        obtain ⟨a, ea⟩ : ∃ a, a = mw (mo 24) R (2 ^ p) (rtN (2 ^ p)) := ⟨_, rfl⟩
        obtain ⟨b, eb⟩ : ∃ b, b = mw (mo 24) R (2 ^ p) (upN (2 ^ p) 8) := ⟨_, rfl⟩
        rw [← ea] at t1 va k1 ⊢
        rw [← eb] at w1 vb k1 ⊢
        unfold mx2 at k1 ⊢
        refine callF_at (by omega) (by decide) (Nat.le_of_ble_eq_true rfl) (fun d' hd' => ?_)
        obtain rfl : d = d' := by omega
        show Ev X d 46 0 [.ref 158, .long (lN A), .retAddr 0, .int (nI dep), .retAddr 0, .retAddr 0, .retAddr 0, .retAddr 0, .retAddr 0, .retAddr 0] [] (mk I J) _
        by_cases g : a < b
        · rw [if_pos g] at k1 ⊢
          simp (disch := first | omega | assumption | exact rfl) only [U_46_0, U_46_1, U_46_3, U_46_5, XX, QQ, WW, KK, QX, SHs, RRs, Nat.reduceAdd, Nat.reduceMul, Nat.reduceLeDiff, Nat.reduceEqDiff, List.length_cons, List.length_nil, decide_true, decide_false, Bool.true_and, Bool.and_true, Bool.false_and, Bool.and_false, false_and, and_false, Bool.false_eq_true, Bool.true_eq_false, reduceCtorEq, eq_self, if_true, if_false, true_and, and_true, not_true_eq_false, not_false_eq_true, if_pos, if_neg, z_ite_not, false_or, or_false, true_or, or_true, SWs, swk_0, swk_1, ar, la, nz, s2, y, h3, r1, q8, t1, w1, g, k1]
        · rw [if_neg g] at k1 ⊢
          simp (disch := first | omega | assumption | exact rfl) only [U_46_0, U_46_1, U_46_3, U_46_5, XX, QQ, WW, KK, QX, SHs, RRs, Nat.reduceAdd, Nat.reduceMul, Nat.reduceLeDiff, Nat.reduceEqDiff, List.length_cons, List.length_nil, decide_true, decide_false, Bool.true_and, Bool.and_true, Bool.false_and, Bool.and_false, false_and, and_false, Bool.false_eq_true, Bool.true_eq_false, reduceCtorEq, eq_self, if_true, if_false, true_and, and_true, not_true_eq_false, not_false_eq_true, if_pos, if_neg, z_ite_not, false_or, or_false, true_or, or_true, SWs, swk_0, swk_1, ar, la, nz, s2, y, h3, r1, q8, t1, w1, g, k1]
theorem c_mostCouples {X : Nat × (Nat → Int32)} {d : Nat} {I : Nat → Nat → Int32} {J : Nat → Nat → Int64} {R : Nat} (hd : 57 ≤ d) (hR : R < 2 ^ 64) (hp : pop R ≤ 24) : ∃ I' J', callF X d 43 [.ref 158, .long (lN R)] (mk I J) = some (some (.int (nI (mo 24 R))), mk I' J') ∧ PF I I' J J' := by
  obtain ⟨d, rfl⟩ : ∃ d', d = d' + 1 := ⟨d - 1, by omega⟩
  have fl : callF X d 263 [.ref 159, .long (lN 0)] (mk I J) = some (none, mk I (va_up J 159 (fillJ 8192 (lN 0) (J 159)))) := s_fillL (X := X) (d := d) (M := mk I J) (a := 159) (n := 8192) (by omega) rfl (by decide)
  obtain ⟨I1, J1, h1, h2, h3⟩ := c_most (X := X) 24 R 0 d I (va_up J 159 (fillJ 8192 (lN 0) (J 159))) hR hp (by decide) (by decide) (by omega) (fun s hs R' n0 hR' e => by
    rw [vu_eq] at e
    unfold fillJ at e
    rw [if_pos hs] at e
    exact absurd ((lN_e64 (by decide) hR').mp e).symm n0)
  refine ⟨I1, J1, ?_, ⟨h3.1, fun a ha => by rw [h3.2 a ha, vu_ne ha]⟩⟩
  refine callF_at (by omega) (by decide) (Nat.le_of_ble_eq_true rfl) (fun d' hd' => ?_)
  obtain rfl : d = d' := by omega
  show Ev X d 43 0 [.ref 158, .long (lN R), .retAddr 0] [] (mk I J) _
  simp (disch := first | omega | assumption | exact rfl) only [U_43_0, XX, QQ, WW, KK, QX, SHs, RRs, Nat.reduceAdd, Nat.reduceMul, Nat.reduceLeDiff, Nat.reduceEqDiff, List.length_cons, List.length_nil, decide_true, decide_false, Bool.true_and, Bool.and_true, Bool.false_and, Bool.and_false, false_and, and_false, Bool.false_eq_true, Bool.true_eq_false, reduceCtorEq, eq_self, if_true, if_false, true_and, and_true, not_true_eq_false, not_false_eq_true, if_pos, if_neg, z_ite_not, false_or, or_false, true_or, or_true, SWs, swk_0, swk_1, fl, h1]
