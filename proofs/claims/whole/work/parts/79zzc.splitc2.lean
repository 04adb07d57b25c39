/-! ===== parting: the class's splits, all of them ===== -/
theorem alg_cg {f g : Nat → Nat} {R p S T m : Nat} (hR : R < 2 ^ 64) (hp : R.testBit p = true) (hS1 : S = 0 ∨ ∃ q, S = 2 ^ q) (hpS : S.testBit p = false) (hm : pop R ≤ m + 2) (h : ∀ R', R' < 2 ^ 64 → pop R' ≤ m → f R' = g R') : alg f R (2 ^ p) S T = alg g R (2 ^ p) S T := by
  unfold alg
  by_cases z : R &&& S = 0
  · rw [if_pos z, if_pos z]
  · rw [if_neg z, if_neg z]
    obtain ⟨q, eq, hq⟩ := pw1 hR hS1 z
    have qp : q ≠ p := fun t => by rw [eq, t, Nat.testBit_two_pow] at hpS; simp at hpS
    have p1 := rmS_pop hR hp
    have hq' : (rmS R (2 ^ p)).testBit q = true := (rmS_tb hR).mpr ⟨hq, by rw [Nat.testBit_two_pow]; exact decide_eq_false (fun t => qp t.symm)⟩
    have p2 := rmS_pop (R := rmS R (2 ^ p)) rmS_lt hq'
    rw [← eq] at p2
    have p3 : pop (rmS (rmS (rmS R (2 ^ p)) S) T) ≤ pop (rmS (rmS R (2 ^ p)) S) := fb_ct_sub (fun k _ h => ((rmS_tb rmS_lt).mp h).1)
    rw [h _ rmS_lt (by omega), h _ rmS_lt (by omega)]
theorem rt_np {p : Nat} (hp : p < 64) : (rtN (2 ^ p)).testBit p = false := by
  rw [rtN_pw hp]; split
  · rw [Nat.testBit_two_pow]; exact decide_eq_false (by omega)
  · exact Nat.zero_testBit _
theorem up_np {p k : Nat} (hk : 0 < k) : (upN (2 ^ p) k).testBit p = false := by
  rw [upN_pw]; split
  · rw [Nat.testBit_two_pow]; exact decide_eq_false (by omega)
  · exact Nat.zero_testBit _
theorem rt_lt64 {x : Nat} (hx : x < 2 ^ 64) : rtN x < 2 ^ 64 := rt_lt hx
theorem up_lt64 {x k : Nat} : upN x k < 2 ^ 64 := Nat.mod_lt _ (by decide)
theorem low_p {R : Nat} (hR : R < 2 ^ 64) (h0 : R ≠ 0) : R.testBit (lbp R) = true ∧ lbp R < 64 ∧ lN R &&& -(lN R) = lN (2 ^ lbp R) ∧ (∀ q, q < lbp R → R.testBit q = false) := by
  obtain ⟨p, h1, h2, h3, h4⟩ := low_bit hR h0
  rw [lbp_s hR h2 h3]
  exact ⟨h2, h1, h4, h3⟩
theorem sp_st : ∀ n R, R < 2 ^ 64 → pop R ≤ n → sp (n + 1) R = sp n R
  | 0, R, hR, h => by
    have z := (pop_z hR).mp (by omega)
    subst z
    unfold sp
    rw [if_pos rfl, if_pos rfl]
  | n + 1, R, hR, h => by
    by_cases z : R = 0
    · rw [sp, sp, if_pos z, if_pos z]
    · obtain ⟨h1, h2, _, _⟩ := low_p hR z
      have c := fun R' a b => sp_st n R' a b
      rw [sp, if_neg z, alg_cg (f := sp (n + 1)) (g := sp n) hR h1 (rt_c h2) (rt_np h2) (m := n) (by omega) c, alg_cg (f := sp (n + 1)) (g := sp n) hR h1 up_c (up_np (by decide)) (m := n) (by omega) c]
      rw [sp, if_neg z]
theorem sp_e {R : Nat} (hR : R < 2 ^ 64) (h : pop R ≤ 24) (z : R ≠ 0) : sp 24 R = alg (sp 24) R (2 ^ lbp R) (rtN (2 ^ lbp R)) (rtN (rtN (2 ^ lbp R))) ||| alg (sp 24) R (2 ^ lbp R) (upN (2 ^ lbp R) 8) (upN (2 ^ lbp R) 16) := by
  have e : sp 25 R = sp 24 R := sp_st 24 R hR h
  rw [← e, sp, if_neg z]
theorem c_splits {X : Nat × (Nat → Int32)} : ∀ n (R dep d : Nat) (I : Nat → Nat → Int32) (J : Nat → Nat → Int64), R < 2 ^ 64 → pop R ≤ n → n ≤ 24 → dep + n ≤ 24 → 2 * n + 6 ≤ d → MI (sp 24) I J → ∃ I' J', callF X d 44 [.ref 158, .long (lN R), .int (nI dep)] (mk I J) = some (some (.int (nI (sp 24 R))), mk I' J') ∧ MI (sp 24) I' J' ∧ PF I I' J J' := by
  intro n
  induction n with
  | zero =>
    intro R dep d I J hR hp _ hdep hd hM
    have z := (pop_z hR).mp (by omega)
    subst z
    refine ⟨I, J, ?_, hM, PF_r⟩
    have e : sp 24 0 = 1 := by rw [sp, if_pos rfl]
    rw [e]
    refine callF_at (by omega) (by decide) (Nat.le_of_ble_eq_true rfl) (fun d _ => ?_)
    show Ev X d 44 0 [.ref 158, .long (lN 0), .retAddr 0, .int (nI dep), .retAddr 0, .retAddr 0, .retAddr 0, .retAddr 0, .retAddr 0, .retAddr 0] [] ( mk I J) _
    simp (disch := first | omega | assumption | exact rfl) only [U_44_0, U_44_2, U_44_3, U_44_5, XX, QQ, WW, KK, QX, SHs, RRs, Nat.reduceAdd, Nat.reduceMul, Nat.reduceLeDiff, Nat.reduceEqDiff, List.length_cons, List.length_nil, decide_true, decide_false, Bool.true_and, Bool.and_true, Bool.false_and, Bool.and_false, false_and, and_false, Bool.false_eq_true, Bool.true_eq_false, reduceCtorEq, eq_self, if_true, if_false, true_and, and_true, not_true_eq_false, not_false_eq_true, if_pos, if_neg, z_ite_not, false_or, or_false, true_or, or_true, SWs, swk_0, swk_1, lc0']
  | succ n ih =>
    intro R dep d I J hR hp hn hdep hd hM
    by_cases z : R = 0
    · subst z
      refine ⟨I, J, ?_, hM, PF_r⟩
      have e : sp 24 0 = 1 := by rw [sp, if_pos rfl]
      rw [e]
      refine callF_at (by omega) (by decide) (Nat.le_of_ble_eq_true rfl) (fun d _ => ?_)
      show Ev X d 44 0 [.ref 158, .long (lN 0), .retAddr 0, .int (nI dep), .retAddr 0, .retAddr 0, .retAddr 0, .retAddr 0, .retAddr 0, .retAddr 0] [] ( mk I J) _
      simp (disch := first | omega | assumption | exact rfl) only [U_44_0, U_44_2, U_44_3, U_44_5, XX, QQ, WW, KK, QX, SHs, RRs, Nat.reduceAdd, Nat.reduceMul, Nat.reduceLeDiff, Nat.reduceEqDiff, List.length_cons, List.length_nil, decide_true, decide_false, Bool.true_and, Bool.and_true, Bool.false_and, Bool.and_false, false_and, and_false, Bool.false_eq_true, Bool.true_eq_false, reduceCtorEq, eq_self, if_true, if_false, true_and, and_true, not_true_eq_false, not_false_eq_true, if_pos, if_neg, z_ite_not, false_or, or_false, true_or, or_true, SWs, swk_0, swk_1, lc0']
    · obtain ⟨d, rfl⟩ : ∃ d', d = d' + 1 := ⟨d - 1, by omega⟩
      obtain ⟨h1, h2, h3, _⟩ := low_p hR z
      have nz := fun t => z ((lc_z hR).mp t)
      have dl : dep ≤ 24 := by omega
      obtain ⟨sl, s1, s2⟩ := c_slotOf (X := X) (d := d) (I := I) (J := J) (R := R) (by omega) hR
      by_cases y : lg_cmp (J 159 sl) (lN R) = 0
      · have a := hM sl s1 R z hR (lc_eq.mp y)
        refine ⟨I, J, ?_, hM, PF_r⟩
        refine callF_at (by omega) (by decide) (Nat.le_of_ble_eq_true rfl) (fun d' hd' => ?_)
        obtain rfl : d = d' := by omega
        show Ev X d 44 0 [.ref 158, .long (lN R), .retAddr 0, .int (nI dep), .retAddr 0, .retAddr 0, .retAddr 0, .retAddr 0, .retAddr 0, .retAddr 0] [] (mk I J) _
        simp (disch := first | omega | assumption | exact rfl) only [U_44_0, U_44_1, U_44_6, U_44_7, XX, QQ, WW, KK, QX, SHs, RRs, Nat.reduceAdd, Nat.reduceMul, Nat.reduceLeDiff, Nat.reduceEqDiff, List.length_cons, List.length_nil, decide_true, decide_false, Bool.true_and, Bool.and_true, Bool.false_and, Bool.and_false, false_and, and_false, Bool.false_eq_true, Bool.true_eq_false, reduceCtorEq, eq_self, if_true, if_false, true_and, and_true, not_true_eq_false, not_false_eq_true, if_pos, if_neg, z_ite_not, false_or, or_false, true_or, or_true, SWs, swk_0, swk_1, nz, s2, y, a]
      · have hv : ∀ R, sp 24 R < 2 ^ 25 := fun R => sp_lt 24 R
        have P64 : 2 ^ lbp R < 2 ^ 64 := pw_lt h2
        obtain ⟨p, ep⟩ : ∃ p, p = lbp R := ⟨_, rfl⟩
        rw [← ep] at h1 h2 h3 P64
        obtain ⟨I1, J1, t1, t2, t3⟩ := c_along (X := X) (d := d) (I := I) (J := J) (v := sp 24) (R := R) (p := p) (S := rtN (2 ^ p)) (T := rtN (rtN (2 ^ p))) (dep := dep) (n := n) hR h1 (rt_lt64 P64) (rt_lt64 (rt_lt64 P64)) (rt_c h2) (rt_np h2) hv (by omega) (by omega) (by omega) hM (fun R' I J x1 x2 x3 => ih R' (dep + 1) (d - 1) I J x1 x2 (by omega) (by omega) (by omega) x3)
        obtain ⟨I2, J2, w1, w2, w3⟩ := c_along (X := X) (d := d) (I := I1) (J := J1) (v := sp 24) (R := R) (p := p) (S := upN (2 ^ p) 8) (T := upN (2 ^ p) 16) (dep := dep) (n := n) hR h1 up_lt64 up_lt64 up_c (up_np (by decide)) hv (by omega) (by omega) (by omega) t2 (fun R' I J x1 x2 x3 => ih R' (dep + 1) (d - 1) I J x1 x2 (by omega) (by omega) (by omega) x3)
        obtain ⟨I3, J3, k1, k2, k3⟩ := c_keep (X := X) (d := d) (I := I2) (J := J2) (v := sp 24) (R := R) (by omega) hR w2
        refine ⟨I3, J3, ?_, k2, PF_t t3 (PF_t w3 k3)⟩
        have es := sp_e hR (by omega) z
        rw [← ep] at es
        obtain ⟨A1, eA1⟩ : ∃ A, A = alg (sp 24) R (2 ^ p) (rtN (2 ^ p)) (rtN (rtN (2 ^ p))) := ⟨_, rfl⟩
        obtain ⟨A2, eA2⟩ : ∃ A, A = alg (sp 24) R (2 ^ p) (upN (2 ^ p) 8) (upN (2 ^ p) 16) := ⟨_, rfl⟩
        rw [← eA1, ← eA2] at es
        rw [← eA1] at t1
        rw [← eA2] at w1
        rw [es] at k1 ⊢
        have r1 := fun M => s_rightOf (X := X) (d := d) (M := M) (x := 2 ^ p) (by omega) P64
        have r2 := fun M => s_rightOf (X := X) (d := d) (M := M) (x := rtN (2 ^ p)) (by omega) (rt_lt64 P64)
        have u8 : lN (2 ^ p * 2 ^ 8) = lN (upN (2 ^ p) 8) := wb_mod _
        have u16 : lN (2 ^ p * 2 ^ 16) = lN (upN (2 ^ p) 16) := wb_mod _
        have q8 : lN (2 ^ p) <<< ((nI 8).toInt64 &&& 63) = lN (upN (2 ^ p) 8) := (wb_shl _ (by decide)).trans u8
        have q16 : lN (2 ^ p) <<< ((nI 16).toInt64 &&& 63) = lN (upN (2 ^ p) 16) := (wb_shl _ (by decide)).trans u16
        refine callF_at (by omega) (by decide) (Nat.le_of_ble_eq_true rfl) (fun d' hd' => ?_)
        obtain rfl : d = d' := by omega
        show Ev X d 44 0 [.ref 158, .long (lN R), .retAddr 0, .int (nI dep), .retAddr 0, .retAddr 0, .retAddr 0, .retAddr 0, .retAddr 0, .retAddr 0] [] (mk I J) _
        simp (disch := first | omega | assumption | exact rfl) only [U_44_0, U_44_1, U_44_6, U_44_8, XX, QQ, WW, KK, QX, SHs, RRs, Nat.reduceAdd, Nat.reduceMul, Nat.reduceLeDiff, Nat.reduceEqDiff, List.length_cons, List.length_nil, decide_true, decide_false, Bool.true_and, Bool.and_true, Bool.false_and, Bool.and_false, false_and, and_false, Bool.false_eq_true, Bool.true_eq_false, reduceCtorEq, eq_self, if_true, if_false, true_and, and_true, not_true_eq_false, not_false_eq_true, if_pos, if_neg, z_ite_not, false_or, or_false, true_or, or_true, SWs, swk_0, swk_1, nz, s2, y, h3, r1, r2, t1, q8, q16, w1, fa_or, k1]
theorem c_couplesSet {X : Nat × (Nat → Int32)} {d : Nat} {I : Nat → Nat → Int32} {J : Nat → Nat → Int64} {R : Nat} (hd : 60 ≤ d) (hR : R < 2 ^ 64) (hp : pop R ≤ 24) : ∃ I' J', callF X d 42 [.ref 158, .long (lN R)] (mk I J) = some (some (.int (nI (sp 24 R))), mk I' J') ∧ PF I I' J J' := by
  obtain ⟨d, rfl⟩ : ∃ d', d = d' + 1 := ⟨d - 1, by omega⟩
  have fl : callF X d 263 [.ref 159, .long (lN 0)] (mk I J) = some (none, mk I (va_up J 159 (fillJ 8192 (lN 0) (J 159)))) := s_fillL (X := X) (d := d) (M := mk I J) (a := 159) (n := 8192) (by omega) rfl (by decide)
  obtain ⟨I1, J1, h1, h2, h3⟩ := c_splits (X := X) 24 R 0 d I (va_up J 159 (fillJ 8192 (lN 0) (J 159))) hR hp (by decide) (by decide) (by omega) (fun s hs R' n0 hR' e => by
    rw [vu_eq] at e
    unfold fillJ at e
    rw [if_pos hs] at e
    exact absurd ((lN_e64 (by decide) hR').mp e).symm n0)
  refine ⟨I1, J1, ?_, ⟨h3.1, fun a ha => by rw [h3.2 a ha, vu_ne ha]⟩⟩
  refine callF_at (by omega) (by decide) (Nat.le_of_ble_eq_true rfl) (fun d' hd' => ?_)
  obtain rfl : d = d' := by omega
  show Ev X d 42 0 [.ref 158, .long (lN R), .retAddr 0] [] (mk I J) _
  simp (disch := first | omega | assumption | exact rfl) only [U_42_0, XX, QQ, WW, KK, QX, SHs, RRs, Nat.reduceAdd, Nat.reduceMul, Nat.reduceLeDiff, Nat.reduceEqDiff, List.length_cons, List.length_nil, decide_true, decide_false, Bool.true_and, Bool.and_true, Bool.false_and, Bool.and_false, false_and, and_false, Bool.false_eq_true, Bool.true_eq_false, reduceCtorEq, eq_self, if_true, if_false, true_and, and_true, not_true_eq_false, not_false_eq_true, if_pos, if_neg, z_ite_not, false_or, or_false, true_or, or_true, SWs, swk_0, swk_1, fl, h1]
