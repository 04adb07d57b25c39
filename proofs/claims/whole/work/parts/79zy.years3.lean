/-! ===== years: refused or not ===== -/
theorem ys_ok {X : Nat × (Nat → Int32)} {d : Nat} {I : Nat → Nat → Int32} {J : Nat → Nat → Int64} {k s n : Nat} (hd : 11 ≤ d) (h : Inv I J) (hk : k < 3) (hs6 : s < 6) (hn1 : 1 ≤ n) (hn : n ≤ 30) (FS : Nat → Nat) (hF : FS s < 2 ^ 64) (hj : J 4 s = lN (FS s)) (hRs : RSh (I 178) s (FS s)) (h0 : 0 < pop (FS s)) (FW : Nat → Nat) (hwl : ∀ a, a < 6 → WG (mk I J) (14 + 4 * a) (FW a) ∧ WB (I (14 + 4 * a + 1)) (pop (FW a)) ∧ RWl (I 178) a (FW a) (I (14 + 4 * a + 1))) (hb0 : 0 < fb_ct (isB (I 15)) (pop (FW 0))) (yr : Nat) (hy1 : I 1 3 = nI yr) (hy2 : I 178 3 = nI yr) (hyn : yr + n ≤ 999) : Both X d 132 232 [.int (nI k), .int (nI s), .int (nI n)] I J := by
  obtain ⟨x0, al, be, yr0, s1, s2, s3, s4, s5, s6, s7, s8, s9⟩ := Inv_sc h
  obtain ⟨mks, brk, hm⟩ := Inv_mk h
  obtain ⟨hG, hB, hR⟩ := hwl 0 (by decide)
  obtain ⟨hh, S, i1, i2, i3, i4⟩ := Inv_hi h
  obtain ⟨fi, m1, m2, m3, m4⟩ := Inv_mt h
  have p24 := hRs.1
  have hG : WG (mk I J) 14 (FW 0) := hG
  have hB : WB (I 15) (pop (FW 0)) := hB
  have hR : RWl (I 178) 0 (FW 0) (I 15) := hR
  obtain ⟨L, sg, l1, l2, l3, l4⟩ := WRu_sg (o := 0) (r := 178) h.1.2.2.2.2.2.2 hk
  rw [Nat.add_zero] at l2 l4
  have ch : ∀ i, ∃ p : Nat × Nat, i < L → p.1 < 7 ∧ p.2 ≤ 9999 ∧ I (38 + 8 * k + 1) i = nI p.1 ∧ (p.1 = 1 → I (38 + 8 * k + 2) i = nI p.2) ∧ I 178 (4500 + 16 * k + i) = nI p.1 ∧ (p.1 = 1 → I 178 (4550 + 16 * k + i) = nI p.2) := fun i => by
    by_cases z : i < L
    · obtain ⟨way, by_, _, _, _, _, q1, q2, q3, q4, _⟩ := l4 i z
      by_cases w : way = 1
      · exact ⟨(way, by_), fun _ => ⟨q1, (q4 w).1, q2, fun _ => (q4 w).2.1, q3, fun _ => (q4 w).2.2⟩⟩
      · exact ⟨(way, 0), fun _ => ⟨q1, Nat.zero_le _, q2, fun q => absurd q w, q3, fun q => absurd q w⟩⟩
    · exact ⟨(0, 0), fun q => absurd q z⟩
  obtain ⟨wy, hwy⟩ := Classical.axiomOfChoice ch
  have hL : LnY I k L sg wy := ⟨l1, l2, l3, fun i hi => by
    obtain ⟨q1, q2, q3, q4, q5, q6⟩ := hwy i hi
    exact ⟨l4 i hi, q1, q2, q3, q4, q5, q6⟩⟩
  obtain ⟨st, est⟩ : ∃ st : YrS, st = (I 1 0, FW 0, I 15, fi, yr, hh, fun y j => I 178 (1430 + 51 * y + j)) := ⟨_, rfl⟩
  have hO : YOk st := by
    rw [est]
    refine ⟨hB, hG.2.2.1, ⟨fun b c hb hc => (m1 b c hb hc).1, fun b hb => (m2 b hb).1⟩, i1, fun y hy b hb => ?_⟩
    obtain ⟨_, _, _, q⟩ := i4 y hy
    obtain ⟨q1, q2, q3, q4⟩ := q b hb
    refine ⟨S y b, q1, ?_⟩
    show I 178 (1430 + 51 * y + (3 + b)) = _
    rw [← Nat.add_assoc]; exact q3
  have hC : CWY I J st := by
    rw [est]
    refine ⟨rfl, hy1, hG, fun _ _ => rfl, ⟨fun p q h1 h2 => m3 p q h1 h2, m4⟩, i2, fun y hy => ?_⟩
    obtain ⟨q1, q2, q3, q⟩ := i4 y hy
    refine ⟨q1, q2, q3, fun b hb => ?_⟩
    obtain ⟨w1, w2, w3, w4⟩ := q b hb
    refine ⟨?_, ?_⟩
    · show I 12 (y * 24 + b) = I 178 (1430 + 51 * y + (3 + b)); rw [← Nat.add_assoc, w2, w3]
    · show I 13 (y * 24 + b) = I 178 (1430 + 51 * y + (27 + b)); rw [← Nat.add_assoc]; exact w4
  obtain ⟨d, rfl⟩ : ∃ d', d = d' + 1 := ⟨d - 1, by omega⟩
  have syr : st.2.2.2.2.1 + n ≤ 999 := by rw [est]; exact hyn
  obtain ⟨I1, J1, y1, y2, y3⟩ := c_yearsLoop (X := X) (d := d) (I := I) (J := J) (k := k) (F1 := FS s) (al := al) (be := be) (L := L) (n := n) (mks := mks) (sg := sg) (wy := wy) (s := st) (v2 := nI s) (by omega) hk hC hO hn syr hF p24 h0 s4 s1 s6 s2 (fun j hj => (hm j hj).2.2.1) (fun j hj => (hm j hj).1) hL
  have fr : ∀ a, 176 < a → I1 a = I a := fun a ha => y3.1 a (by omega) (by omega) (by omega) (by omega) (by omega) (.inr ha)
  have e178 : I1 178 = I 178 := fr 178 (by decide)
  have ga := r_gathers (X := X) (d := d) (I := I1) (J := J1) (a := 0) (by omega) (by decide) (by rw [e178]; exact hR)
  obtain ⟨nb, enb⟩ : ∃ nb, nb = fb_ct (isB (I 15)) (pop (FW 0)) := ⟨_, rfl⟩
  have nb24 : nb ≤ 24 := by have := fb_ct_le (isB (I 15)) (pop (FW 0)); have := hG.2.2.1; omega
  rw [← enb] at ga hb0
  have gf := FR_gat (I := I1) (F := FW 0) (B := I 15)
  obtain ⟨Ig, eIg⟩ : ∃ Ig, Ig = Igat I1 (FW 0) (I 15) := ⟨_, rfl⟩
  rw [← eIg] at ga gf
  have g178 : Ig 178 = I 178 := by rw [gf.2.1]; exact e178
  have hRr : RWY Ig st := by
    rw [est]
    refine ⟨?_, ?_, ?_, ?_, ?_, ?_, ?_⟩ <;> simp only [g178]
    · exact x0.symm
    · exact hy2
    · exact hR
    · exact fun b c hb hc => (m1 b c hb hc).2
    · exact fun b hb => (m2 b hb).2
    · exact i3
    · exact fun _ _ _ _ => trivial
  have hLg : LnY Ig k L sg wy := LnY_fr (by rw [gf.1 _ (by omega)]; exact y3.2.2.1 0 (by decide)) (fun j h1 h2 => by rw [gf.1 _ (by omega)]; exact y3.1 _ (by omega) (by omega) (by omega) (by omega) (by omega) (by omega)) (fun i hi => by rw [g178]) hL
  obtain ⟨I2, z1, z2, z3⟩ := r_yearsLoop (X := X) (d := d) (I := Ig) (J := J1) (k := k) (s := s) (F1 := FS s) (al := al) (be := be) (L := L) (n := n) (mks := mks) (sg := sg) (wy := wy) (st := st) (by omega) hk hs6 hRr hO hn syr (by rw [g178]; exact hRs) h0 (by rw [g178]; exact s5) s1 (by rw [g178]; exact s7) s2 (fun j hj => by rw [g178]; exact (hm j hj).2.2.2.1) (fun j hj => (hm j hj).1) hLg
  have okn := itY_s (be := be) (al := al) (L := L) (mks := mks) (sg := sg) (wy := wy) (n := n) (m := n) hO p24 h0
  have rg : RFy I1 Ig := ⟨fun a ha => by
    rcases ha with q | q | q
    · exact gf.1 a q
    · subst q; exact gf.2.2.1
    · subst q; exact gf.2.2.2.1, gf.2.2.2.2, fun i _ _ _ _ _ => by rw [gf.2.1]⟩
  refine ⟨nI (gsY (FS s) al be mks sg L wy st n), I1, J1, I2, ?_, ?_, Inv_yr hk h y2 z2 okn.1 (by rw [okn.2]; exact syr) y3 (RFy_t rg z3) fr⟩
  · refine callF_at (by omega) (by decide) (Nat.le_of_ble_eq_true rfl) (fun d' hd' => ?_)
    obtain rfl : d = d' := by omega
    show Ev X d 132 0 [.ref 0, .int (nI k), .int (nI s), .int (nI n), .retAddr 0, .retAddr 0, .retAddr 0, .retAddr 0] [] (mk I J) _
    have nz := lc0 hF (fun z => by rw [(pop_z hF).mpr z] at h0; omega)
    have bi := s_bricksIn (X := X) (d := d) (by omega) hG
    have bi : callF X d 100 [.ref 14] (mk I J) = some (some (.int (nI nb)), mk I J) := by rw [enb]; exact bi
    have nn : ¬ nb = 0 := by omega
    have a1 : ¬ n < 1 := by omega
    simp (disch := first | omega | assumption | exact rfl) only [U_132_0, U_132_1, U_132_2, U_132_3, U_132_5, U_132_6, U_132_7, U_132_9, XX, QQ, WW, KK, QX, SHs, RRs, Nat.reduceAdd, Nat.reduceMul, Nat.reduceLeDiff, Nat.reduceEqDiff, List.length_cons, List.length_nil, decide_true, decide_false, Bool.true_and, Bool.and_true, Bool.false_and, Bool.and_false, false_and, and_false, Bool.false_eq_true, Bool.true_eq_false, reduceCtorEq, eq_self, if_true, if_false, true_and, and_true, not_true_eq_false, not_false_eq_true, if_pos, if_neg, z_ite_not, false_or, or_false, true_or, or_true, SWs, swk_0, swk_1, s_isOf, hj, nz, bi, nn, a1, hy1]
    exact y1
  · refine callF_at (by omega) (by decide) (Nat.le_of_ble_eq_true rfl) (fun d' hd' => ?_)
    obtain rfl : d = d' := by omega
    show Ev X d 232 0 [.ref 177, .int (nI k), .int (nI s), .int (nI n), .retAddr 0, .retAddr 0] [] (mk I1 J1) _
    have c70 : I1 178 (70 + s) = nI (pop (FS s)) := by rw [e178]; exact hRs.2.1
    have nz : ¬ pop (FS s) = 0 := by omega
    have nn : ¬ nb = 0 := by omega
    have c3 : Ig 178 3 = nI yr := by rw [g178]; exact hy2
    simp (disch := first | omega | assumption | exact rfl) only [U_232_0, U_232_1, U_232_2, U_232_3, U_232_4, U_232_5, U_232_7, XX, QQ, WW, KK, QX, SHs, RRs, Nat.reduceAdd, Nat.reduceMul, Nat.reduceLeDiff, Nat.reduceEqDiff, List.length_cons, List.length_nil, decide_true, decide_false, Bool.true_and, Bool.and_true, Bool.false_and, Bool.and_false, false_and, and_false, Bool.false_eq_true, Bool.true_eq_false, reduceCtorEq, eq_self, if_true, if_false, true_and, and_true, not_true_eq_false, not_false_eq_true, if_pos, if_neg, z_ite_not, false_or, or_false, true_or, or_true, SWs, swk_0, swk_1, r_isShape, r_isIn, c70, nz, ga, nn, c3]
    exact z1
theorem b_years {X : Nat × (Nat → Int32)} {d : Nat} {I : Nat → Nat → Int32} {J : Nat → Nat → Int64} {u1 u2 u3 : Int32} (hd : 11 ≤ d) (h : Inv I J) : Both X d 132 232 [.int u1, .int u2, .int u3] I J := by
  obtain ⟨FS, hs⟩ := Inv_sh h
  obtain ⟨FW, hwl⟩ := Inv_wl h
  obtain ⟨x0, al, be, yr, s1, s2, s3, s4, s5, s6, s7, s8, s9⟩ := Inv_sc h
  rcases of_d u1 2 3 rfl (by decide) with ⟨k, hk, rfl⟩ | ⟨o1, o2⟩
  · rcases of_d u2 5 6 rfl (by decide) with ⟨s, hs6, rfl⟩ | ⟨o1, o2⟩
    · obtain ⟨hF, hj, hRs⟩ := hs s hs6
      obtain ⟨hG, hB, hR⟩ := hwl 0 (by decide)
      have hG : WG (mk I J) 14 (FW 0) := hG
      have hR : RWl (I 178) 0 (FW 0) (I 15) := hR
      have p24 := hRs.1
      have c70 : I 178 (70 + s) = nI (pop (FS s)) := hRs.2.1
      obtain ⟨nb, enb⟩ : ∃ nb, nb = fb_ct (isB (I 15)) (pop (FW 0)) := ⟨_, rfl⟩
      have nb24 : nb ≤ 24 := by have := fb_ct_le (isB (I 15)) (pop (FW 0)); have := hG.2.2.1; omega
      have bi : ∀ d, 1 ≤ d → callF X d 100 [.ref 14] (mk I J) = some (some (.int (nI nb)), mk I J) := fun d hd => by rw [enb]; exact s_bricksIn (X := X) (d := d) hd hG
      have ga : ∀ d, 2 ≤ d → callF X d 216 [.ref 177, .int (nI 0)] (mk I J) = some (some (.int (nI nb)), mk (Igat I (FW 0) (I 15)) J) := fun d hd => by rw [enb]; exact r_gathers (X := X) (d := d) (I := I) (J := J) (a := 0) hd (by decide) hR
      obtain ⟨Ig, eIg⟩ : ∃ Ig, Ig = Igat I (FW 0) (I 15) := ⟨_, rfl⟩
      have g178 : Ig 178 = I 178 := by rw [eIg]; exact FR_gat.2.1
      rw [← eIg] at ga
      have Ing : Inv Ig J := by rw [eIg]; exact Inv_FR h FR_gat
      have cl : ∀ u3 : Int32, (∀ d, 11 ≤ d → callF X d 132 [.ref 0, .int (nI k), .int (nI s), .int u3] (mk I J) = some (some (.int (-1)), mk I J)) → (∃ I2, Inv I2 J ∧ callF X d 232 [.ref 177, .int (nI k), .int (nI s), .int u3] (mk I J) = some (some (.int (-1)), mk I2 J)) → Both X d 132 232 [.int (nI k), .int (nI s), .int u3] I J := fun u3 q1 ⟨I2, q2, q3⟩ => ⟨-1, I, J, I2, q1 d hd, q3, q2⟩
      have rf : ∀ u3 : Int32, (pop (FS s) = 0 ∨ nb = 0 ∨ (decide (nI 1 ≤ u3) && decide (u3 ≤ nI 30)) = false ∨ (∃ n, u3 = nI n ∧ 1 ≤ n ∧ n ≤ 30 ∧ 999 < yr + n)) → ∃ I2, Inv I2 J ∧ callF X d 232 [.ref 177, .int (nI k), .int (nI s), .int u3] (mk I J) = some (some (.int (-1)), mk I2 J) := fun u3 hc => by
        by_cases p0 : pop (FS s) = 0
        · rw [p0] at c70
          refine ⟨I, h, ?_⟩
          refine callF_at (by omega) (by decide) (Nat.le_of_ble_eq_true rfl) (fun d _ => ?_)
          show Ev X d 232 0 [.ref 177, .int (nI k), .int (nI s), .int u3, .retAddr 0, .retAddr 0] [] ( mk I J) _
          simp (disch := first | omega | assumption | exact rfl) only [U_232_0, U_232_1, U_232_2, U_232_6, XX, QQ, WW, KK, QX, SHs, RRs, Nat.reduceAdd, Nat.reduceMul, Nat.reduceLeDiff, Nat.reduceEqDiff, List.length_cons, List.length_nil, decide_true, decide_false, Bool.true_and, Bool.and_true, Bool.false_and, Bool.and_false, false_and, and_false, Bool.false_eq_true, Bool.true_eq_false, reduceCtorEq, eq_self, if_true, if_false, true_and, and_true, not_true_eq_false, not_false_eq_true, if_pos, if_neg, z_ite_not, false_or, or_false, true_or, or_true, SWs, swk_0, swk_1, r_isShape, r_isIn, c70]
        · refine ⟨Ig, Ing, ?_⟩
          refine callF_at (by omega) (by decide) (Nat.le_of_ble_eq_true rfl) (fun d _ => ?_)
          show Ev X d 232 0 [.ref 177, .int (nI k), .int (nI s), .int u3, .retAddr 0, .retAddr 0] [] ( mk I J) _
          by_cases n0 : nb = 0
          · rw [n0] at ga
            simp (disch := first | omega | assumption | exact rfl) only [U_232_0, U_232_1, U_232_2, U_232_3, U_232_6, XX, QQ, WW, KK, QX, SHs, RRs, Nat.reduceAdd, Nat.reduceMul, Nat.reduceLeDiff, Nat.reduceEqDiff, List.length_cons, List.length_nil, decide_true, decide_false, Bool.true_and, Bool.and_true, Bool.false_and, Bool.and_false, false_and, and_false, Bool.false_eq_true, Bool.true_eq_false, reduceCtorEq, eq_self, if_true, if_false, true_and, and_true, not_true_eq_false, not_false_eq_true, if_pos, if_neg, z_ite_not, false_or, or_false, true_or, or_true, SWs, swk_0, swk_1, r_isShape, r_isIn, c70, p0, ga]
          · rcases hc with q | q | q | ⟨n, rfl, q1, q2, q3⟩
            · exact absurd q p0
            · exact absurd q n0
            · simp (disch := first | omega | assumption | exact rfl) only [U_232_0, U_232_1, U_232_2, U_232_3, U_232_4, U_232_6, XX, QQ, WW, KK, QX, SHs, RRs, Nat.reduceAdd, Nat.reduceMul, Nat.reduceLeDiff, Nat.reduceEqDiff, List.length_cons, List.length_nil, decide_true, decide_false, Bool.true_and, Bool.and_true, Bool.false_and, Bool.and_false, false_and, and_false, Bool.false_eq_true, Bool.true_eq_false, reduceCtorEq, eq_self, if_true, if_false, true_and, and_true, not_true_eq_false, not_false_eq_true, if_pos, if_neg, z_ite_not, false_or, or_false, true_or, or_true, SWs, swk_0, swk_1, r_isShape, r_isIn, c70, p0, ga, n0, q]
            · have c3 : Ig 178 3 = nI yr := by rw [g178]; exact s9
              have nl : ¬ yr + n ≤ 999 := by omega
              simp (disch := first | omega | assumption | exact rfl) only [U_232_0, U_232_1, U_232_2, U_232_3, U_232_4, U_232_5, U_232_6, XX, QQ, WW, KK, QX, SHs, RRs, Nat.reduceAdd, Nat.reduceMul, Nat.reduceLeDiff, Nat.reduceEqDiff, List.length_cons, List.length_nil, decide_true, decide_false, Bool.true_and, Bool.and_true, Bool.false_and, Bool.and_false, false_and, and_false, Bool.false_eq_true, Bool.true_eq_false, reduceCtorEq, eq_self, if_true, if_false, true_and, and_true, not_true_eq_false, not_false_eq_true, if_pos, if_neg, z_ite_not, false_or, or_false, true_or, or_true, SWs, swk_0, swk_1, r_isShape, r_isIn, c70, p0, ga, n0, c3, nl]
      by_cases lt : u3 < nI 1
      · have nb1 : (decide (nI 1 ≤ u3) && decide (u3 ≤ nI 30)) = false := by rw [decide_eq_false ((fa_of_lt lt).2.1)]; rfl
        refine cl u3 (fun d hd => ?_) (rf u3 (.inr (.inr (.inl nb1))))
        refine callF_at (by omega) (by decide) (Nat.le_of_ble_eq_true rfl) (fun d _ => ?_)
        show Ev X d 132 0 [.ref 0, .int (nI k), .int (nI s), .int u3, .retAddr 0, .retAddr 0, .retAddr 0, .retAddr 0] [] ( mk I J) _
        simp (disch := first | omega | assumption | exact rfl) only [U_132_0, U_132_1, U_132_2, U_132_4, XX, QQ, WW, KK, QX, SHs, RRs, Nat.reduceAdd, Nat.reduceMul, Nat.reduceLeDiff, Nat.reduceEqDiff, List.length_cons, List.length_nil, decide_true, decide_false, Bool.true_and, Bool.and_true, Bool.false_and, Bool.and_false, false_and, and_false, Bool.false_eq_true, Bool.true_eq_false, reduceCtorEq, eq_self, if_true, if_false, true_and, and_true, not_true_eq_false, not_false_eq_true, if_pos, if_neg, z_ite_not, false_or, or_false, true_or, or_true, SWs, swk_0, swk_1, s_isOf, lt]
      · by_cases gt : u3 ≤ nI 30
        · have nn : ¬ u3 < 0 := fun z => lt (Int32.lt_of_lt_of_le z (by decide))
          obtain ⟨n, n31, rfl⟩ := nI_of nn
          rw [nI_ltI n31 (by decide)] at lt
          rw [nI_leI n31 (by decide)] at gt
          by_cases p0 : pop (FS s) = 0
          · have f0 := (pop_z hF).mp p0
            rw [f0] at hj
            refine cl _ (fun d hd => ?_) (rf _ (.inl p0))
            refine callF_at (by omega) (by decide) (Nat.le_of_ble_eq_true rfl) (fun d _ => ?_)
            show Ev X d 132 0 [.ref 0, .int (nI k), .int (nI s), .int (nI n), .retAddr 0, .retAddr 0, .retAddr 0, .retAddr 0] [] ( mk I J) _
            simp (disch := first | omega | assumption | exact rfl) only [U_132_0, U_132_1, U_132_2, U_132_3, U_132_5, U_132_8, XX, QQ, WW, KK, QX, SHs, RRs, Nat.reduceAdd, Nat.reduceMul, Nat.reduceLeDiff, Nat.reduceEqDiff, List.length_cons, List.length_nil, decide_true, decide_false, Bool.true_and, Bool.and_true, Bool.false_and, Bool.and_false, false_and, and_false, Bool.false_eq_true, Bool.true_eq_false, reduceCtorEq, eq_self, if_true, if_false, true_and, and_true, not_true_eq_false, not_false_eq_true, if_pos, if_neg, z_ite_not, false_or, or_false, true_or, or_true, SWs, swk_0, swk_1, s_isOf, hj, lc0', lt]
          · have nz := lc0 hF (fun z => p0 ((pop_z hF).mpr z))
            by_cases n0 : nb = 0
            · rw [n0] at bi
              refine cl _ (fun d hd => ?_) (rf _ (.inr (.inl n0)))
              refine callF_at (by omega) (by decide) (Nat.le_of_ble_eq_true rfl) (fun d _ => ?_)
              show Ev X d 132 0 [.ref 0, .int (nI k), .int (nI s), .int (nI n), .retAddr 0, .retAddr 0, .retAddr 0, .retAddr 0] [] ( mk I J) _
              have bi := bi d (by omega)
              simp (disch := first | omega | assumption | exact rfl) only [U_132_0, U_132_1, U_132_2, U_132_3, U_132_5, U_132_6, U_132_8, XX, QQ, WW, KK, QX, SHs, RRs, Nat.reduceAdd, Nat.reduceMul, Nat.reduceLeDiff, Nat.reduceEqDiff, List.length_cons, List.length_nil, decide_true, decide_false, Bool.true_and, Bool.and_true, Bool.false_and, Bool.and_false, false_and, and_false, Bool.false_eq_true, Bool.true_eq_false, reduceCtorEq, eq_self, if_true, if_false, true_and, and_true, not_true_eq_false, not_false_eq_true, if_pos, if_neg, z_ite_not, false_or, or_false, true_or, or_true, SWs, swk_0, swk_1, s_isOf, hj, nz, lt, bi]
            · by_cases yl : yr + n ≤ 999
              · exact ys_ok hd h hk hs6 (by omega) gt FS hF hj hRs (by omega) FW hwl (by rw [← enb]; omega) yr s8 s9 yl
              · refine cl _ (fun d hd => ?_) (rf _ (.inr (.inr (.inr ⟨n, rfl, by omega, gt, by omega⟩))))
                refine callF_at (by omega) (by decide) (Nat.le_of_ble_eq_true rfl) (fun d _ => ?_)
                show Ev X d 132 0 [.ref 0, .int (nI k), .int (nI s), .int (nI n), .retAddr 0, .retAddr 0, .retAddr 0, .retAddr 0] [] ( mk I J) _
                have bi := bi d (by omega)
                simp (disch := first | omega | assumption | exact rfl) only [U_132_0, U_132_1, U_132_2, U_132_3, U_132_5, U_132_6, U_132_7, U_132_8, XX, QQ, WW, KK, QX, SHs, RRs, Nat.reduceAdd, Nat.reduceMul, Nat.reduceLeDiff, Nat.reduceEqDiff, List.length_cons, List.length_nil, decide_true, decide_false, Bool.true_and, Bool.and_true, Bool.false_and, Bool.and_false, false_and, and_false, Bool.false_eq_true, Bool.true_eq_false, reduceCtorEq, eq_self, if_true, if_false, true_and, and_true, not_true_eq_false, not_false_eq_true, if_pos, if_neg, z_ite_not, false_or, or_false, true_or, or_true, SWs, swk_0, swk_1, s_isOf, hj, nz, lt, bi, n0, s8, yl]
        · have nb1 : (decide (nI 1 ≤ u3) && decide (u3 ≤ nI 30)) = false := by rw [decide_eq_false gt, Bool.and_false]
          refine cl u3 (fun d hd => ?_) (rf u3 (.inr (.inr (.inl nb1))))
          refine callF_at (by omega) (by decide) (Nat.le_of_ble_eq_true rfl) (fun d _ => ?_)
          show Ev X d 132 0 [.ref 0, .int (nI k), .int (nI s), .int u3, .retAddr 0, .retAddr 0, .retAddr 0, .retAddr 0] [] ( mk I J) _
          simp (disch := first | omega | assumption | exact rfl) only [U_132_0, U_132_1, U_132_2, U_132_3, U_132_4, XX, QQ, WW, KK, QX, SHs, RRs, Nat.reduceAdd, Nat.reduceMul, Nat.reduceLeDiff, Nat.reduceEqDiff, List.length_cons, List.length_nil, decide_true, decide_false, Bool.true_and, Bool.and_true, Bool.false_and, Bool.and_false, false_and, and_false, Bool.false_eq_true, Bool.true_eq_false, reduceCtorEq, eq_self, if_true, if_false, true_and, and_true, not_true_eq_false, not_false_eq_true, if_pos, if_neg, z_ite_not, false_or, or_false, true_or, or_true, SWs, swk_0, swk_1, s_isOf, lt, gt]
    · refine Both_0 (-1) h ?_ ?_
      · refine callF_at (by omega) (by decide) (Nat.le_of_ble_eq_true rfl) (fun d _ => ?_)
        show Ev X d 132 0 [.ref 0, .int (nI k), .int u2, .int u3, .retAddr 0, .retAddr 0, .retAddr 0, .retAddr 0] [] ( mk I J) _
        simp (disch := first | omega | assumption | exact rfl) only [U_132_0, U_132_1, U_132_4, XX, QQ, WW, KK, QX, SHs, RRs, Nat.reduceAdd, Nat.reduceMul, Nat.reduceLeDiff, Nat.reduceEqDiff, List.length_cons, List.length_nil, decide_true, decide_false, Bool.true_and, Bool.and_true, Bool.false_and, Bool.and_false, false_and, and_false, Bool.false_eq_true, Bool.true_eq_false, reduceCtorEq, eq_self, if_true, if_false, true_and, and_true, not_true_eq_false, not_false_eq_true, if_pos, if_neg, z_ite_not, false_or, or_false, true_or, or_true, SWs, swk_0, swk_1, s_isOf, o1]
      · refine callF_at (by omega) (by decide) (Nat.le_of_ble_eq_true rfl) (fun d _ => ?_)
        show Ev X d 232 0 [.ref 177, .int (nI k), .int u2, .int u3, .retAddr 0, .retAddr 0] [] ( mk I J) _
        simp (disch := first | omega | assumption | exact rfl) only [U_232_0, U_232_1, U_232_6, XX, QQ, WW, KK, QX, SHs, RRs, Nat.reduceAdd, Nat.reduceMul, Nat.reduceLeDiff, Nat.reduceEqDiff, List.length_cons, List.length_nil, decide_true, decide_false, Bool.true_and, Bool.and_true, Bool.false_and, Bool.and_false, false_and, and_false, Bool.false_eq_true, Bool.true_eq_false, reduceCtorEq, eq_self, if_true, if_false, true_and, and_true, not_true_eq_false, not_false_eq_true, if_pos, if_neg, z_ite_not, false_or, or_false, true_or, or_true, SWs, swk_0, swk_1, r_isIn, r_isShape, o2]
  · refine Both_0 (-1) h ?_ ?_
    · refine callF_at (by omega) (by decide) (Nat.le_of_ble_eq_true rfl) (fun d _ => ?_)
      show Ev X d 132 0 [.ref 0, .int u1, .int u2, .int u3, .retAddr 0, .retAddr 0, .retAddr 0, .retAddr 0] [] ( mk I J) _
      simp (disch := first | omega | assumption | exact rfl) only [U_132_0, U_132_4, XX, QQ, WW, KK, QX, SHs, RRs, Nat.reduceAdd, Nat.reduceMul, Nat.reduceLeDiff, Nat.reduceEqDiff, List.length_cons, List.length_nil, decide_true, decide_false, Bool.true_and, Bool.and_true, Bool.false_and, Bool.and_false, false_and, and_false, Bool.false_eq_true, Bool.true_eq_false, reduceCtorEq, eq_self, if_true, if_false, true_and, and_true, not_true_eq_false, not_false_eq_true, if_pos, if_neg, z_ite_not, false_or, or_false, true_or, or_true, SWs, swk_0, swk_1, s_isOf, o1]
    · refine callF_at (by omega) (by decide) (Nat.le_of_ble_eq_true rfl) (fun d _ => ?_)
      show Ev X d 232 0 [.ref 177, .int u1, .int u2, .int u3, .retAddr 0, .retAddr 0] [] ( mk I J) _
      simp (disch := first | omega | assumption | exact rfl) only [U_232_0, U_232_6, XX, QQ, WW, KK, QX, SHs, RRs, Nat.reduceAdd, Nat.reduceMul, Nat.reduceLeDiff, Nat.reduceEqDiff, List.length_cons, List.length_nil, decide_true, decide_false, Bool.true_and, Bool.and_true, Bool.false_and, Bool.and_false, false_and, and_false, Bool.false_eq_true, Bool.true_eq_false, reduceCtorEq, eq_self, if_true, if_false, true_and, and_true, not_true_eq_false, not_false_eq_true, if_pos, if_neg, z_ite_not, false_or, or_false, true_or, or_true, SWs, swk_0, swk_1, r_isIn, o2]
