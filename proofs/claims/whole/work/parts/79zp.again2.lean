/-! ===== again: both ===== -/
theorem pop_z {F : Nat} (hF : F < 2 ^ 64) : pop F = 0 ↔ F = 0 := by
  constructor
  · intro h
    refine nat_ext (fun k => ?_)
    rw [Nat.zero_testBit]
    have e : F.testBit k = false := by
      rcases Nat.lt_or_ge k 64 with q | q
      · exact fb_ct_zero.mp h k q
      · exact tb64 hF q
    rw [e]
  · rintro rfl; exact pop_0
theorem lN_z {F : Nat} (hF : F < 2 ^ 64) : lN F = lN 0 ↔ F = 0 := by
  constructor
  · intro h
    have h1 : (BitVec.ofNat 64 F).toNat = (BitVec.ofNat 64 0).toNat := congrArg (fun x : Int64 => x.toBitVec.toNat) h
    rw [BitVec.toNat_ofNat, BitVec.toNat_ofNat, Nat.mod_eq_of_lt hF] at h1
    simpa using h1
  · rintro rfl; rfl
theorem lc0 {F : Nat} (hF : F < 2 ^ 64) (h : ¬ F = 0) : ¬ lg_cmp (lN F) (lN 0) = 0 := by
  have n := fun e => h ((lN_z hF).mp e)
  unfold lg_cmp
  rw [if_neg n]
  split <;> decide
theorem ag_ok {X : Nat × (Nat → Int32)} {d : Nat} {I : Nat → Nat → Int32} {J : Nat → Nat → Int64} {a b s w y : Nat} {u : Int32} (hd : 9 ≤ d) (h : Inv I J) (ha : a < 6) (hb : b < 6) (hs6 : s < 6) (hw : w < 7) (hy : y ≤ 99) (hu : w = 1 → u = nI y) (FS : Nat → Nat) (hF : FS s < 2 ^ 64) (hj : J 4 s = lN (FS s)) (hRs : RSh (I 178) s (FS s)) (h0 : 0 < pop (FS s)) : Both X d 131 227 [.int (nI a), .int (nI b), .int (nI s), .int (nI w), .int u] I J := by
  obtain ⟨FW, hwl⟩ := Inv_wl h
  obtain ⟨x0, al, be, yr, s1, s2, s3, s4, s5, s6, s7, s8, s9⟩ := Inv_sc h
  obtain ⟨mks, brk, hm⟩ := Inv_mk h
  obtain ⟨hG1, hB1, hR1⟩ := hwl a ha
  have p24 := hRs.1
  obtain ⟨d, rfl⟩ : ∃ d', d = d' + 1 := ⟨d - 1, by omega⟩
  obtain ⟨B, eB⟩ : ∃ B, B = I (14 + 4 * a + 1) := ⟨_, rfl⟩
  have Bv : ∀ i, i < 24 → B i = I (14 + 4 * a + 1) i := fun i _ => by rw [eB]
  have hB0 : WB B (pop (FW a)) := WB_cg hG1.2.2.1 hB1 Bv
  obtain ⟨Ip, Jp, p1, p2, p3, p4, p5, p6⟩ := c_putUp (B := B) (X := X) (d := d) (I := I) (J := J) (V := 14 + 4 * a) (F0 := FW a) (F1 := FS s) (w := w) (y := y) (al := al) (u := u) (mks := mks) (by omega) hw (by omega) hu (by omega) hG1 (fun i hi => (Bv i hi).symm) hB0 hF p24 h0 s4 s1 (fun k hk => (hm k hk).2.2.1) (fun k hk => (hm k hk).1) (by omega)
  have hR0 : RWl (I 178) a (FW a) B := RWl_tr ha (fun _ _ _ => rfl) Bv hR1
  obtain ⟨n, en⟩ : ∃ n, n = fb_ct (isB B) (pop (FW a)) := ⟨_, rfl⟩
  have n24 : n ≤ 24 := by have := fb_ct_le (isB B) (pop (FW a)); have := hG1.2.2.1; omega
  rw [← en] at p1
  obtain ⟨I1, J1, c1, c2, c3, c4, c5⟩ := c_copyG (X := X) (d := d) (I := Ip) (J := Jp) (W := 14 + 4 * b) (V := 145) (F := FS s) (by omega) (WA_0 hb) p2 (by omega)
  obtain ⟨pt, ept⟩ : ∃ pt, pt = ptF w y (FW a) B (FS s) al mks (I 1 0) := ⟨_, rfl⟩
  rw [← ept] at p3 p4
  have hWp : WB pt.2 (pop (FS s)) := by rw [ept]; exact pt_WB hB0 h0
  have i178 : ∀ k, 176 < k → I1 k = I k := fun k hk => by rw [c4 k (by omega), p5 k (by omega) (by omega)]
  have e178 : I1 178 = I 178 := i178 178 (by omega)
  have ex0 : I 178 0 = I 1 0 := x0.symm
  have ga := r_gathers (X := X) (d := d) (I := I1) (J := J1) (by omega) ha (by rw [e178]; exact hR0)
  rw [← en] at ga
  obtain ⟨Ig, eIg⟩ : ∃ Ig, Ig = Igat I1 (FW a) B := ⟨_, rfl⟩
  rw [← eIg] at ga
  have gf : ∀ a, a ≠ 189 → a ≠ 192 → Ig a = I1 a := fun a h1 h2 => by rw [eIg]; unfold Igat; rw [vu_ne h2, vu_ne h1]
  have g178 : Ig 178 = I 178 := by rw [gf 178 (by decide) (by decide)]; exact e178
  obtain ⟨Iu, q1, q2, q3, q4, q5⟩ := r_puts (X := X) (d := d) (I := Ig) (J := J1) (a := a) (s := s) (F0 := FW a) (F1 := FS s) (w := w) (y := y) (al := al) (u := u) (B := B) (mks := mks) (by omega) ha hs6 hw (by omega) hu (by rw [g178]; exact hR0) hB0 (by rw [g178]; exact hRs) h0 (by rw [g178]; exact s5) s1 (fun k hk => by rw [g178]; exact (hm k hk).2.2.2.1) (fun k hk => (hm k hk).1)
  rw [g178, ex0, ← ept] at q2 q3
  have hS2 : RSh (Iu 178) s (FS s) := by
    obtain ⟨r1, r2, r3⟩ := hRs
    rw [q3]
    refine ⟨r1, by rw [vu_ne (by omega)]; exact r2, fun i hi => by rw [vu_ne (by omega), vu_ne (by omega)]; exact r3 i hi⟩
  obtain ⟨g, y1, y2, y3⟩ := r_becomes (X := X) (d := d) (I := Iu) (J := J1) (b := b) (s := s) (F := FS s) (T := pt.2) (by omega) hb hs6 hS2 q2 hWp
  have g70 : g (70 + s) = nI (pop (FS s)) := by rw [y3 _ (by unfold inA; omega)]; exact hS2.2.1
  refine ⟨nI (n - pop (FS s)), I1, J1, va_up Iu 178 g, ?_, ?_, ?_⟩
  · refine callF_at (by omega) (by decide) (Nat.le_of_ble_eq_true rfl) (fun d' hd' => ?_)
    obtain rfl : d = d' := by omega
    show Ev X d 131 0 [.ref 0, .int (nI a), .int (nI b), .int (nI s), .int (nI w), .int u, .retAddr 0] [] (mk I J) _
    have nz := lc0 hF (fun z => by rw [(pop_z hF).mpr z] at h0; omega)
    by_cases w1 : w = 1
    · have hu := hu w1
      subst hu
      subst w1
      simp (disch := first | omega | assumption | exact rfl) only [U_131_0, U_131_1, U_131_2, U_131_3, U_131_5, U_131_6, U_131_7, U_131_9, XX, QQ, WW, KK, QX, SHs, RRs, Nat.reduceAdd, Nat.reduceMul, Nat.reduceLeDiff, Nat.reduceEqDiff, List.length_cons, List.length_nil, decide_true, decide_false, Bool.true_and, Bool.and_true, Bool.false_and, Bool.and_false, false_and, and_false, Bool.false_eq_true, Bool.true_eq_false, reduceCtorEq, eq_self, if_true, if_false, true_and, and_true, not_true_eq_false, not_false_eq_true, if_pos, if_neg, z_ite_not, false_or, or_false, true_or, or_true, SWs, swk_0, swk_1, s_isOf, WLs, hj, nz, p1, c1]
    · simp (disch := first | omega | assumption | exact rfl) only [U_131_0, U_131_1, U_131_2, U_131_3, U_131_5, U_131_6, U_131_9, XX, QQ, WW, KK, QX, SHs, RRs, Nat.reduceAdd, Nat.reduceMul, Nat.reduceLeDiff, Nat.reduceEqDiff, List.length_cons, List.length_nil, decide_true, decide_false, Bool.true_and, Bool.and_true, Bool.false_and, Bool.and_false, false_and, and_false, Bool.false_eq_true, Bool.true_eq_false, reduceCtorEq, eq_self, if_true, if_false, true_and, and_true, not_true_eq_false, not_false_eq_true, if_pos, if_neg, z_ite_not, false_or, or_false, true_or, or_true, SWs, swk_0, swk_1, s_isOf, WLs, hj, nz, w1, p1, c1]
  · refine callF_at (by omega) (by decide) (Nat.le_of_ble_eq_true rfl) (fun d' hd' => ?_)
    obtain rfl : d = d' := by omega
    show Ev X d 227 0 [.ref 177, .int (nI a), .int (nI b), .int (nI s), .int (nI w), .int u, .retAddr 0] [] (mk I1 J1) _
    have c70 : I1 178 (70 + s) = nI (pop (FS s)) := by rw [e178]; exact hRs.2.1
    have nz : ¬ pop (FS s) = 0 := by omega
    have fin : Ev X d 227 8 [.ref 177, .int (nI a), .int (nI b), .int (nI s), .int (nI w), .int u, .retAddr 0] [] (mk I1 J1) (some (.int (nI (n - pop (FS s)))), mk (va_up Iu 178 g) J1) := by
      by_cases z : n ≤ pop (FS s)
      · rw [show n - pop (FS s) = 0 by omega]
        simp (disch := first | omega | assumption | exact rfl) only [U_227_8, U_227_10, U_227_11, XX, QQ, WW, KK, QX, SHs, RRs, Nat.reduceAdd, Nat.reduceMul, Nat.reduceLeDiff, Nat.reduceEqDiff, List.length_cons, List.length_nil, decide_true, decide_false, Bool.true_and, Bool.and_true, Bool.false_and, Bool.and_false, false_and, and_false, Bool.false_eq_true, Bool.true_eq_false, reduceCtorEq, eq_self, if_true, if_false, true_and, and_true, not_true_eq_false, not_false_eq_true, if_pos, if_neg, z_ite_not, false_or, or_false, true_or, or_true, SWs, swk_0, swk_1, ga, q1, y1, g70]
      · simp (disch := first | omega | assumption | exact rfl) only [U_227_8, U_227_9, U_227_11, XX, QQ, WW, KK, QX, SHs, RRs, Nat.reduceAdd, Nat.reduceMul, Nat.reduceLeDiff, Nat.reduceEqDiff, List.length_cons, List.length_nil, decide_true, decide_false, Bool.true_and, Bool.and_true, Bool.false_and, Bool.and_false, false_and, and_false, Bool.false_eq_true, Bool.true_eq_false, reduceCtorEq, eq_self, if_true, if_false, true_and, and_true, not_true_eq_false, not_false_eq_true, if_pos, if_neg, z_ite_not, false_or, or_false, true_or, or_true, SWs, swk_0, swk_1, ga, q1, y1, g70, z]
    by_cases w1 : w = 1
    · have hu := hu w1
      subst hu
      subst w1
      simp (disch := first | omega | assumption | exact rfl) only [U_227_0, U_227_1, U_227_2, U_227_3, U_227_4, U_227_5, U_227_6, XX, QQ, WW, KK, QX, SHs, RRs, Nat.reduceAdd, Nat.reduceMul, Nat.reduceLeDiff, Nat.reduceEqDiff, List.length_cons, List.length_nil, decide_true, decide_false, Bool.true_and, Bool.and_true, Bool.false_and, Bool.and_false, false_and, and_false, Bool.false_eq_true, Bool.true_eq_false, reduceCtorEq, eq_self, if_true, if_false, true_and, and_true, not_true_eq_false, not_false_eq_true, if_pos, if_neg, z_ite_not, false_or, or_false, true_or, or_true, SWs, swk_0, swk_1, r_isWall, r_isShape, r_isIn, c70, nz]
      exact fin
    · simp (disch := first | omega | assumption | exact rfl) only [U_227_0, U_227_1, U_227_2, U_227_3, U_227_4, U_227_5, XX, QQ, WW, KK, QX, SHs, RRs, Nat.reduceAdd, Nat.reduceMul, Nat.reduceLeDiff, Nat.reduceEqDiff, List.length_cons, List.length_nil, decide_true, decide_false, Bool.true_and, Bool.and_true, Bool.false_and, Bool.and_false, false_and, and_false, Bool.false_eq_true, Bool.true_eq_false, reduceCtorEq, eq_self, if_true, if_false, true_and, and_true, not_true_eq_false, not_false_eq_true, if_pos, if_neg, z_ite_not, false_or, or_false, true_or, or_true, SWs, swk_0, swk_1, r_isWall, r_isShape, r_isIn, c70, nz, w1]
      exact fin
  · have r2 : ∀ k, k ≠ 178 → va_up Iu 178 g k = Iu k := fun k hk => vu_ne hk
    have f0 : ∀ k, k < 177 → va_up Iu 178 g k = I1 k := fun k hk => by rw [r2 k (by omega), q4 k (by omega), gf k (by omega) (by omega)]
    refine Inv_setW hb h (fun k k1 k2 k3 => by rw [f0 k (by omega), c4 k (by omega), p5 k (by omega) (by omega)]) (fun i hi => by rw [f0 1 (by omega), c4 1 (by omega), p4, vu_ne hi]) ?_ (fun k k1 k2 => by rw [c5 k k2, p6 k k1]) (fun i i1 i2 => by rw [vu_eq, y3 i i2, q3, vu_ne i1]) (by rw [r2 _ (by decide), q4 _ (by omega), gf _ (by decide) (by decide)]; exact i178 179 (by omega)) (by rw [r2 _ (by decide), q4 _ (by omega), gf _ (by decide) (by decide)]; exact i178 182 (by omega)) (fun k hk => by rw [r2 _ (by decide), q5 k hk, gf _ (by decide) (by decide)]; exact congrFun (i178 177 (by omega)) k) ⟨FS s, ?_, ?_, ?_⟩
    · rw [f0 1 (by omega), c4 1 (by omega), p4, vu_eq, vu_eq, y3 0 (by unfold inA; omega), q3, vu_eq]
    · exact WG_fr c2 (fun k h1 h2 => f0 k (by omega)) rfl
    · rw [f0 _ (by omega)]
      exact WB_cg p24 hWp (fun i hi => by rw [c3 i hi, p3 i hi])
    · rw [f0 (14 + 4 * b + 1) (by omega), vu_eq]
      exact RWl_tr hb (fun _ _ _ => rfl) (fun i hi => by rw [c3 i hi, p3 i hi]) y2
