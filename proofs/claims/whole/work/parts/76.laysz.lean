/-! ===== layings: alike ===== -/
theorem r_tryAll {X : Nat × (Nat → Int32)} {d : Nat} {I : Nat → Nat → Int32} {J : Nat → Nat → Int64} {a s FS F1 al be : Nat} {B1 : Nat → Int32} {mks : Nat → Nat} (hd : 18 ≤ d) (ha : a < 6) (hs : s < 6) (hW : RWl (I 178) a F1 B1) (hB : WB B1 (pop F1)) (hR : RSh (I 178) s FS) (hn1 : pop FS ≤ 7) (hal : I 178 1 = nI al) (hal2 : al < 2) (hbe : I 178 2 = nI be) (hbe2 : be ≤ 24) (hm : ∀ k, k < 24 → I 178 (10 + k) = nI (mks k)) (hm4 : ∀ k, k < 24 → mks k < 4) :
    ∃ G I', callF X d 205 [.ref 177, .int (nI a), .ref 186] (mk I J) = some (some (.int (nI (ins F1 B1))), mk G J) ∧ (∃ G2, callF X d 217 [.ref 177] (mk (va_up G 177 (va_up (va_up (va_up (va_up (G 177) 26 (nI (ins F1 B1))) 37 (-1)) 38 (nI 0)) 39 (nI 0))) J) = some (none, mk G2 J) ∧ G2 177 26 = nI (ins F1 B1) ∧ callF X d 245 [.ref 177, .int (nI s), .int (nI 0), .int (nI (ins F1 B1))] (mk G2 J) = some (none, mk I' J)) ∧ RI I (pop FS) F1 B1 I' (allT (fL be F1 B1 FS al mks) (pop FS) 0 (ins F1 B1) (fun _ => 0) (25, 0, 0, nI 0, fun _ => 0)) := by
  have l := r_lays (X := X) (d := d) (J := J) (by omega) ha hW hB (N := 186) rfl ⟨by decide, by decide⟩
  obtain ⟨G, eG⟩ : ∃ G, G = va_up I 186 (gN F1 B1 (I 186) (pop F1)) := ⟨_, rfl⟩
  rw [← eG] at l
  have fG : ∀ a, a ≠ 186 → G a = I a := fun a ha => by rw [eG, vu_ne ha]
  obtain ⟨G1, eG1⟩ : ∃ G1, G1 = va_up G 177 (va_up (va_up (va_up (va_up (G 177) 26 (nI (ins F1 B1))) 37 (-1)) 38 (nI 0)) 39 (nI 0)) := ⟨_, rfl⟩
  have em := r_empties (X := X) (d := d) (I := G1) (J := J) (by omega)
  have f1 : ∀ a, a ≠ 177 → a ≠ 186 → G1 a = I a := fun a h1 h2 => by rw [eG1, vu_ne h1, fG a h2]
  have h26 : G1 177 26 = nI (ins F1 B1) := by rw [eG1, vu_eq]; rfl
  have hRI : RI I (pop FS) F1 B1 G1 (25, 0, 0, nI 0, fun _ => 0) := by
    refine ⟨⟨fun a ha => f1 a (by omega) (by omega), f1 _ (by decide) (by decide), f1 _ (by decide) (by decide), f1 _ (by decide) (by decide), fun k hk => ?_⟩, h26, fun b hb => ?_, ?_, fun z => absurd z (by decide), ?_, ?_, Nat.le_refl _, Nat.zero_le _, Nat.zero_le _⟩
    · rw [eG1, vu_eq, vu_ne (by omega), vu_ne (by omega), vu_ne (by omega), vu_ne (by omega), fG _ (by decide)]
    · rw [eG1, vu_ne (by decide), eG, vu_eq]; exact if_pos hb
    · rw [eG1, vu_eq, if_pos rfl]; rfl
    · rw [eG1, vu_eq]; rfl
    · rw [eG1, vu_eq]; rfl
  obtain ⟨I', o1, o2, o3, o4⟩ := r_orders (X := X) (J := J) (Ib := I) hs hn1 rfl hR hal hal2 hbe hbe2 hm hm4 (pop FS) 0 (ins F1 B1) (fun _ => 0) (25, 0, 0, nI 0, fun _ => 0) (va_up G1 188 (fillI 24 (-1) (G1 188))) d (by omega) (by omega) (ins_lt _ _) ⟨fun i hi => by omega, fun i j hi => by omega⟩ (RI_188 hRI) (fun i hi => by omega) (fun i _ h2 => by rw [vu_eq]; exact if_pos h2)
  rw [eG1] at em h26
  exact ⟨G, I', l, ⟨_, em, by rw [vu_ne (by decide)]; exact h26, by rw [← eG1]; exact o1⟩, o2⟩
theorem lay_end {be F1 FS al : Nat} {B1 : Nat → Int32} {mks : Nat → Nat} {s : LyS} (hB : WB B1 (pop F1)) (hn : fb_ct (isB B1) (pop F1) = pop FS) : (allT (fL be F1 B1 FS al mks) (pop FS) 0 (ins F1 B1) (fun _ => 0) s).1 ≤ 24 :=
  allT_b (fun B s => by unfold fL; exact nst_m) (fun B s => by unfold fL; exact nst_b bad_le) _ _ _ _ _ (ins_lt _ _) (by rw [pop_ins hB, hn]; exact Nat.le_refl _)
theorem b_layings {X : Nat × (Nat → Int32)} {d : Nat} {I : Nat → Nat → Int32} {J : Nat → Nat → Int64} {u v w : Int32} (hd : 22 ≤ d) (h : Inv I J) : Both X d 139 246 [.int u, .int v, .int w] I J := by
  obtain ⟨FW, hw⟩ := Inv_wl h
  obtain ⟨FS, hs⟩ := Inv_sh h
  obtain ⟨_, al, be, yr, s1, s2, s3, s4, s5, s6, s7, s8, s9⟩ := Inv_sc h
  obtain ⟨mks, brk, hm⟩ := Inv_mk h
  rcases of_d u 5 6 rfl (by decide) with ⟨a, ha, rfl⟩ | ⟨o1, o2⟩
  · rcases of_d v 5 6 rfl (by decide) with ⟨s, hs6, rfl⟩ | ⟨o1, o2⟩
    · obtain ⟨hG1, hB1, hR1⟩ := hw a ha
      obtain ⟨hF, hj, hRs⟩ := hs s hs6
      obtain ⟨B1, e1⟩ : ∃ B1, B1 = I (14 + 4 * a + 1) := ⟨_, rfl⟩
      rw [← e1] at hB1 hR1
      obtain ⟨n, en⟩ : ∃ n, n = fb_ct (isB B1) (pop (FW a)) := ⟨_, rfl⟩
      have n24 : n ≤ 24 := by have := fb_ct_le (isB B1) (pop (FW a)); have := hG1.2.2.1; omega
      have p24 := hRs.1
      have sh : ∀ I1 J1, FC I I1 J J1 → I1 178 (70 + s) = nI (pop (FS s)) := fun I1 J1 f => by rw [f.1 _ (by omega)]; exact hRs.2.1
      have bi := fun d (hd : 1 ≤ d) => s_bricksIn (X := X) (d := d) hd hG1
      have em : m_I (mk I J) (14 + 4 * a + 1) = B1 := e1.symm
      rw [em, ← en] at bi
      have ga := fun d (hd : 2 ≤ d) I1 J1 (f : FC I I1 J J1) => r_gathers (X := X) (d := d) (I := I1) (J := J1) hd ha (by rw [f.1 _ (by omega)]; exact hR1)
      rw [← en] at ga
      have g178 : ∀ I1, Igat I1 (FW a) B1 178 = I1 178 := fun I1 => by unfold Igat; rw [vu_ne (by decide), vu_ne (by decide)]
      by_cases ok : 1 ≤ n ∧ n ≤ 7 ∧ pop (FS s) = n
      · obtain ⟨k1, k2, k3⟩ := ok
        have hw' : (∃ m, w = nI m ∧ m < 2 ^ 31) ∨ (w < 0) := by
          by_cases z : w < 0
          · exact .inr z
          · obtain ⟨m, q1, q2⟩ := nI_of z
            exact .inl ⟨m, q2, q1⟩
        have nok : (∀ d, 22 ≤ d → callF X d 139 [.ref 0, .int (nI a), .int (nI s), .int w] (mk I J) = some (some (.int (-1)), mk I J)) → (∀ d, 22 ≤ d → callF X d 246 [.ref 177, .int (nI a), .int (nI s), .int w] (mk I J) = some (some (.int (-1)), mk (Igat I (FW a) B1) J)) → Both X d 139 246 [.int (nI a), .int (nI s), .int w] I J := fun q1 q2 => ⟨-1, I, J, Igat I (FW a) B1, q1 d hd, q2 d hd, Inv_FR h FR_gat⟩
        have cl := fun d (hd : 2 ≤ d) => s_cellsOf (X := X) (d := d) (M := mk I J) hd hF (by omega)
        rw [k3] at cl
        have sh' := sh I J (FC_refl I J)
        rw [k3] at sh'
        rcases hw' with ⟨m, rfl, m31⟩ | wn
        · by_cases om : m < 3 ∨ (10 ≤ m ∧ m < 10 + n)
          · -- all is well
            obtain ⟨d, rfl⟩ : ∃ d', d = d' + 1 := ⟨d - 1, by omega⟩
            obtain ⟨I1, J1, t1, t2, t3⟩ := c_tryAll (X := X) (d := d) (J := J) (by omega) hG1 (by omega) (by rw [← e1]; exact hB1) hF (by omega) (by rw [← e1, ← en, k3]) s4 s1 s6 s2 (fun k hk => (hm k hk).2.2.1) (fun k hk => (hm k hk).1)
            rw [← e1] at t2
            have le := lay_end (be := be) (F1 := FW a) (FS := FS s) (al := al) (mks := mks) (s := (25, 0, 0, nI 0, fun _ => 0)) hB1 (by rw [← en, k3])
            have fc : FC I I1 J J1 := ⟨fun a ha => t2.1 a (by omega), t3⟩
            have t2' : CI I J1 (pop (FS s)) be (FW a) B1 (FS s) al mks (ins (FW a) B1) I1 (allT (fL be (FW a) B1 (FS s) al mks) (pop (FS s)) 0 (ins (FW a) B1) (fun _ => 0) (25, 0, 0, nI 0, fun _ => 0)) := t2
            have f178 : Igat I1 (FW a) B1 178 = I 178 := by rw [g178, fc.1 _ (by omega)]
            obtain ⟨G, I2, q1, ⟨G2, q2, q3, q4⟩, q5⟩ := r_tryAll (X := X) (d := d) (I := Igat I1 (FW a) B1) (J := J1) (a := a) (s := s) (FS := FS s) (by omega) ha hs6 (by rw [f178]; exact hR1) hB1 (by rw [f178]; exact hRs) (by omega) (by rw [f178]; exact s5) s1 (by rw [f178]; exact s7) s2 (by rw [f178]; exact fun k hk => (hm k hk).2.2.2.1) (fun k hk => (hm k hk).1)
            have hI2 : Inv I2 J1 := Inv_FR (Inv_FC h fc) (FR_trans FR_gat q5.1)
            obtain ⟨st, est⟩ : ∃ st, st = allT (fL be (FW a) B1 (FS s) al mks) (pop (FS s)) 0 (ins (FW a) B1) (fun _ => 0) (25, 0, 0, nI 0, fun _ => 0) := ⟨_, rfl⟩
            rw [← est] at q5 t2' le
            rw [k3] at q5 t2'
            obtain ⟨_, _, _, _, _, _, _, a6, _, a8, a9, _, _, _, a15⟩ := t2'
            obtain ⟨_, _, _, b4, b5, b6, b7, _, _, _⟩ := q5
            rw [if_neg (by omega)] at b4
            have b5 := (b5 le).2
            have a15 := a15 le
            obtain ⟨cal, ecal⟩ : ∃ c : Int32, c = if m = 0 then nI st.1 else if m = 1 then nI st.2.2.1 else if m = 2 then st.2.2.2.1 else st.2.2.2.2 (m - 10) := ⟨_, rfl⟩
            have ga1 := ga d (by omega) I1 J1 fc
            have shg : Igat I1 (FW a) B1 178 (70 + s) = nI n := by rw [f178, hRs.2.1, k3]
            refine ⟨cal, I1, J1, I2, ?_, ?_, hI2⟩
            · refine callF_at (by omega) (by decide) (Nat.le_of_ble_eq_true rfl) (fun d' hd' => ?_)
              obtain rfl : d = d' := by omega
              show Ev X d 139 0 [.ref 0, .int (nI a), .int (nI s), .int (nI m), .retAddr 0, .retAddr 0, .retAddr 0] [] (mk I J) _
              have bi := bi d (by omega)
              have cl := cl d (by omega)
              by_cases m3 : m < 3
              · obtain rfl | rfl | rfl : m = 0 ∨ m = 1 ∨ m = 2 := by omega
                · rw [ecal, if_pos rfl]
                  simp (disch := first | omega | assumption | exact rfl) only [U_139_0, U_139_1, U_139_2, U_139_3, U_139_4, U_139_5, U_139_6, U_139_7, U_139_8, U_139_9, U_139_10, U_139_11, U_139_12, U_139_13, U_139_14, U_139_15, U_139_16, U_139_17, U_139_18, U_139_19, U_139_20, U_139_21, XX, QQ, WW, KK, QX, SHs, RRs, Nat.reduceAdd, Nat.reduceMul, Nat.reduceLeDiff, Nat.reduceEqDiff, List.length_cons, List.length_nil, decide_true, decide_false, Bool.true_and, Bool.and_true, Bool.false_and, Bool.and_false, false_and, and_false, Bool.false_eq_true, Bool.true_eq_false, reduceCtorEq, eq_self, if_true, if_false, true_and, and_true, not_true_eq_false, not_false_eq_true, if_pos, if_neg, z_ite_not, false_or, or_false, true_or, or_true, SWs, swk_0, swk_1, s_isOf, WLs, bi, cl, hj, t1, a6]
                · rw [ecal, if_neg (by omega), if_pos rfl]
                  simp (disch := first | omega | assumption | exact rfl) only [U_139_0, U_139_1, U_139_2, U_139_3, U_139_4, U_139_5, U_139_6, U_139_7, U_139_8, U_139_9, U_139_10, U_139_11, U_139_12, U_139_13, U_139_14, U_139_15, U_139_16, U_139_17, U_139_18, U_139_19, U_139_20, U_139_21, XX, QQ, WW, KK, QX, SHs, RRs, Nat.reduceAdd, Nat.reduceMul, Nat.reduceLeDiff, Nat.reduceEqDiff, List.length_cons, List.length_nil, decide_true, decide_false, Bool.true_and, Bool.and_true, Bool.false_and, Bool.and_false, false_and, and_false, Bool.false_eq_true, Bool.true_eq_false, reduceCtorEq, eq_self, if_true, if_false, true_and, and_true, not_true_eq_false, not_false_eq_true, if_pos, if_neg, z_ite_not, false_or, or_false, true_or, or_true, SWs, swk_0, swk_1, s_isOf, WLs, bi, cl, hj, t1, a8]
                · rw [ecal, if_neg (by omega), if_neg (by omega), if_pos rfl]
                  simp (disch := first | omega | assumption | exact rfl) only [U_139_0, U_139_1, U_139_2, U_139_3, U_139_4, U_139_5, U_139_6, U_139_7, U_139_8, U_139_9, U_139_10, U_139_11, U_139_12, U_139_13, U_139_14, U_139_15, U_139_16, U_139_17, U_139_18, U_139_19, U_139_20, U_139_21, XX, QQ, WW, KK, QX, SHs, RRs, Nat.reduceAdd, Nat.reduceMul, Nat.reduceLeDiff, Nat.reduceEqDiff, List.length_cons, List.length_nil, decide_true, decide_false, Bool.true_and, Bool.and_true, Bool.false_and, Bool.and_false, false_and, and_false, Bool.false_eq_true, Bool.true_eq_false, reduceCtorEq, eq_self, if_true, if_false, true_and, and_true, not_true_eq_false, not_false_eq_true, if_pos, if_neg, z_ite_not, false_or, or_false, true_or, or_true, SWs, swk_0, swk_1, s_isOf, WLs, bi, cl, hj, t1, a9]
              · have am := a15 (m - 10) (by omega)
                have m17 : m - 10 < 7 := by omega
                rw [ecal, if_neg (by omega), if_neg (by omega), if_neg (by omega)]
                simp (disch := first | omega | assumption | exact rfl) only [U_139_0, U_139_1, U_139_2, U_139_3, U_139_4, U_139_5, U_139_6, U_139_7, U_139_8, U_139_9, U_139_10, U_139_11, U_139_12, U_139_13, U_139_14, U_139_15, U_139_16, U_139_17, U_139_18, U_139_19, U_139_20, U_139_21, XX, QQ, WW, KK, QX, SHs, RRs, Nat.reduceAdd, Nat.reduceMul, Nat.reduceLeDiff, Nat.reduceEqDiff, List.length_cons, List.length_nil, decide_true, decide_false, Bool.true_and, Bool.and_true, Bool.false_and, Bool.and_false, false_and, and_false, Bool.false_eq_true, Bool.true_eq_false, reduceCtorEq, eq_self, if_true, if_false, true_and, and_true, not_true_eq_false, not_false_eq_true, if_pos, if_neg, z_ite_not, false_or, or_false, true_or, or_true, SWs, swk_0, swk_1, s_isOf, WLs, bi, cl, hj, t1, am]
            · refine callF_at (by omega) (by decide) (Nat.le_of_ble_eq_true rfl) (fun d' hd' => ?_)
              obtain rfl : d = d' := by omega
              show Ev X d 246 0 [.ref 177, .int (nI a), .int (nI s), .int (nI m), .retAddr 0] [] (mk I1 J1) _
              by_cases m3 : m < 3
              · obtain rfl | rfl | rfl : m = 0 ∨ m = 1 ∨ m = 2 := by omega
                · rw [ecal, if_pos rfl]
                  simp (disch := first | omega | assumption | exact rfl) only [U_246_0, U_246_1, U_246_2, U_246_3, U_246_4, U_246_5, U_246_6, U_246_7, U_246_8, U_246_9, U_246_10, U_246_11, U_246_12, U_246_13, U_246_14, U_246_15, XX, QQ, WW, KK, QX, SHs, RRs, Nat.reduceAdd, Nat.reduceMul, Nat.reduceLeDiff, Nat.reduceEqDiff, List.length_cons, List.length_nil, decide_true, decide_false, Bool.true_and, Bool.and_true, Bool.false_and, Bool.and_false, false_and, and_false, Bool.false_eq_true, Bool.true_eq_false, reduceCtorEq, eq_self, if_true, if_false, true_and, and_true, not_true_eq_false, not_false_eq_true, if_pos, if_neg, z_ite_not, false_or, or_false, true_or, or_true, SWs, swk_0, swk_1, r_isWall, r_isShape, r_isIn, ga1, shg, q1, q2, q3, q4, b4]
                · rw [ecal, if_neg (by omega), if_pos rfl]
                  simp (disch := first | omega | assumption | exact rfl) only [U_246_0, U_246_1, U_246_2, U_246_3, U_246_4, U_246_5, U_246_6, U_246_7, U_246_8, U_246_9, U_246_10, U_246_11, U_246_12, U_246_13, U_246_14, U_246_15, XX, QQ, WW, KK, QX, SHs, RRs, Nat.reduceAdd, Nat.reduceMul, Nat.reduceLeDiff, Nat.reduceEqDiff, List.length_cons, List.length_nil, decide_true, decide_false, Bool.true_and, Bool.and_true, Bool.false_and, Bool.and_false, false_and, and_false, Bool.false_eq_true, Bool.true_eq_false, reduceCtorEq, eq_self, if_true, if_false, true_and, and_true, not_true_eq_false, not_false_eq_true, if_pos, if_neg, z_ite_not, false_or, or_false, true_or, or_true, SWs, swk_0, swk_1, r_isWall, r_isShape, r_isIn, ga1, shg, q1, q2, q3, q4, b6]
                · rw [ecal, if_neg (by omega), if_neg (by omega), if_pos rfl]
                  simp (disch := first | omega | assumption | exact rfl) only [U_246_0, U_246_1, U_246_2, U_246_3, U_246_4, U_246_5, U_246_6, U_246_7, U_246_8, U_246_9, U_246_10, U_246_11, U_246_12, U_246_13, U_246_14, U_246_15, XX, QQ, WW, KK, QX, SHs, RRs, Nat.reduceAdd, Nat.reduceMul, Nat.reduceLeDiff, Nat.reduceEqDiff, List.length_cons, List.length_nil, decide_true, decide_false, Bool.true_and, Bool.and_true, Bool.false_and, Bool.and_false, false_and, and_false, Bool.false_eq_true, Bool.true_eq_false, reduceCtorEq, eq_self, if_true, if_false, true_and, and_true, not_true_eq_false, not_false_eq_true, if_pos, if_neg, z_ite_not, false_or, or_false, true_or, or_true, SWs, swk_0, swk_1, r_isWall, r_isShape, r_isIn, ga1, shg, q1, q2, q3, q4, b7]
              · have bm := b5 (m - 10) (by omega)
                have m17 : m - 10 < 24 := by omega
                rw [ecal, if_neg (by omega), if_neg (by omega), if_neg (by omega)]
                simp (disch := first | omega | assumption | exact rfl) only [U_246_0, U_246_1, U_246_2, U_246_3, U_246_4, U_246_5, U_246_6, U_246_7, U_246_8, U_246_9, U_246_10, U_246_11, U_246_12, U_246_13, U_246_14, U_246_15, XX, QQ, WW, KK, QX, SHs, RRs, Nat.reduceAdd, Nat.reduceMul, Nat.reduceLeDiff, Nat.reduceEqDiff, List.length_cons, List.length_nil, decide_true, decide_false, Bool.true_and, Bool.and_true, Bool.false_and, Bool.and_false, false_and, and_false, Bool.false_eq_true, Bool.true_eq_false, reduceCtorEq, eq_self, if_true, if_false, true_and, and_true, not_true_eq_false, not_false_eq_true, if_pos, if_neg, z_ite_not, false_or, or_false, true_or, or_true, SWs, swk_0, swk_1, r_isWall, r_isShape, r_isIn, ga1, shg, q1, q2, q3, q4, bm]
          · refine nok (fun d hd => ?_) (fun d hd => ?_)
            · refine callF_at (by omega) (by decide) (Nat.le_of_ble_eq_true rfl) (fun d _ => ?_)
              show Ev X d 139 0 [.ref 0, .int (nI a), .int (nI s), .int (nI m), .retAddr 0, .retAddr 0, .retAddr 0] [] ( mk I J) _
              have bi := bi d (by omega)
              have cl := cl d (by omega)
              by_cases z : m < 10
              · simp (disch := first | omega | assumption | exact rfl) only [U_139_0, U_139_1, U_139_2, U_139_3, U_139_4, U_139_5, U_139_6, U_139_7, U_139_8, U_139_9, U_139_10, U_139_11, U_139_12, U_139_13, XX, QQ, WW, KK, QX, SHs, RRs, Nat.reduceAdd, Nat.reduceMul, Nat.reduceLeDiff, Nat.reduceEqDiff, List.length_cons, List.length_nil, decide_true, decide_false, Bool.true_and, Bool.and_true, Bool.false_and, Bool.and_false, false_and, and_false, Bool.false_eq_true, Bool.true_eq_false, reduceCtorEq, eq_self, if_true, if_false, true_and, and_true, not_true_eq_false, not_false_eq_true, if_pos, if_neg, z_ite_not, false_or, or_false, true_or, or_true, SWs, swk_0, swk_1, s_isOf, WLs, bi, cl, hj]
              · simp (disch := first | omega | assumption | exact rfl) only [U_139_0, U_139_1, U_139_2, U_139_3, U_139_4, U_139_5, U_139_6, U_139_7, U_139_8, U_139_9, U_139_10, U_139_11, U_139_12, U_139_13, XX, QQ, WW, KK, QX, SHs, RRs, Nat.reduceAdd, Nat.reduceMul, Nat.reduceLeDiff, Nat.reduceEqDiff, List.length_cons, List.length_nil, decide_true, decide_false, Bool.true_and, Bool.and_true, Bool.false_and, Bool.and_false, false_and, and_false, Bool.false_eq_true, Bool.true_eq_false, reduceCtorEq, eq_self, if_true, if_false, true_and, and_true, not_true_eq_false, not_false_eq_true, if_pos, if_neg, z_ite_not, false_or, or_false, true_or, or_true, SWs, swk_0, swk_1, s_isOf, WLs, bi, cl, hj]
            · refine callF_at (by omega) (by decide) (Nat.le_of_ble_eq_true rfl) (fun d _ => ?_)
              show Ev X d 246 0 [.ref 177, .int (nI a), .int (nI s), .int (nI m), .retAddr 0] [] ( mk I J) _
              have ga := ga d (by omega) I J (FC_refl I J)
              have shg : Igat I (FW a) B1 178 (70 + s) = nI n := by rw [g178]; exact sh'
              by_cases z : m < 10
              · simp (disch := first | omega | assumption | exact rfl) only [U_246_0, U_246_1, U_246_2, U_246_3, U_246_4, U_246_5, U_246_6, U_246_7, XX, QQ, WW, KK, QX, SHs, RRs, Nat.reduceAdd, Nat.reduceMul, Nat.reduceLeDiff, Nat.reduceEqDiff, List.length_cons, List.length_nil, decide_true, decide_false, Bool.true_and, Bool.and_true, Bool.false_and, Bool.and_false, false_and, and_false, Bool.false_eq_true, Bool.true_eq_false, reduceCtorEq, eq_self, if_true, if_false, true_and, and_true, not_true_eq_false, not_false_eq_true, if_pos, if_neg, z_ite_not, false_or, or_false, true_or, or_true, SWs, swk_0, swk_1, r_isWall, r_isShape, r_isIn, ga, shg]
              · simp (disch := first | omega | assumption | exact rfl) only [U_246_0, U_246_1, U_246_2, U_246_3, U_246_4, U_246_5, U_246_6, U_246_7, XX, QQ, WW, KK, QX, SHs, RRs, Nat.reduceAdd, Nat.reduceMul, Nat.reduceLeDiff, Nat.reduceEqDiff, List.length_cons, List.length_nil, decide_true, decide_false, Bool.true_and, Bool.and_true, Bool.false_and, Bool.and_false, false_and, and_false, Bool.false_eq_true, Bool.true_eq_false, reduceCtorEq, eq_self, if_true, if_false, true_and, and_true, not_true_eq_false, not_false_eq_true, if_pos, if_neg, z_ite_not, false_or, or_false, true_or, or_true, SWs, swk_0, swk_1, r_isWall, r_isShape, r_isIn, ga, shg]
        · have z0 : ¬ 0 ≤ w := (fa_of_lt wn).2.1
          have z0' : decide (nI 0 ≤ w) = false := decide_eq_false z0
          have z10 : w < nI 10 := fa_trans wn (by decide +kernel)
          have z10' : decide (nI 10 ≤ w) = false := decide_eq_false (fa_of_lt z10).2.1
          refine nok (fun d hd => ?_) (fun d hd => ?_)
          · refine callF_at (by omega) (by decide) (Nat.le_of_ble_eq_true rfl) (fun d _ => ?_)
            show Ev X d 139 0 [.ref 0, .int (nI a), .int (nI s), .int w, .retAddr 0, .retAddr 0, .retAddr 0] [] ( mk I J) _
            have bi := bi d (by omega)
            have cl := cl d (by omega)
            simp (disch := first | omega | assumption | exact rfl) only [U_139_0, U_139_1, U_139_2, U_139_3, U_139_4, U_139_5, U_139_6, U_139_7, U_139_8, U_139_9, U_139_10, U_139_11, U_139_12, U_139_13, XX, QQ, WW, KK, QX, SHs, RRs, Nat.reduceAdd, Nat.reduceMul, Nat.reduceLeDiff, Nat.reduceEqDiff, List.length_cons, List.length_nil, decide_true, decide_false, Bool.true_and, Bool.and_true, Bool.false_and, Bool.and_false, false_and, and_false, Bool.false_eq_true, Bool.true_eq_false, reduceCtorEq, eq_self, if_true, if_false, true_and, and_true, not_true_eq_false, not_false_eq_true, if_pos, if_neg, z_ite_not, false_or, or_false, true_or, or_true, SWs, swk_0, swk_1, s_isOf, WLs, bi, cl, hj, z0, z10]
          · refine callF_at (by omega) (by decide) (Nat.le_of_ble_eq_true rfl) (fun d _ => ?_)
            show Ev X d 246 0 [.ref 177, .int (nI a), .int (nI s), .int w, .retAddr 0] [] ( mk I J) _
            have ga := ga d (by omega) I J (FC_refl I J)
            have shg : Igat I (FW a) B1 178 (70 + s) = nI n := by rw [g178]; exact sh'
            simp (disch := first | omega | assumption | exact rfl) only [U_246_0, U_246_1, U_246_2, U_246_3, U_246_4, U_246_5, U_246_6, U_246_7, XX, QQ, WW, KK, QX, SHs, RRs, Nat.reduceAdd, Nat.reduceMul, Nat.reduceLeDiff, Nat.reduceEqDiff, List.length_cons, List.length_nil, decide_true, decide_false, Bool.true_and, Bool.and_true, Bool.false_and, Bool.and_false, false_and, and_false, Bool.false_eq_true, Bool.true_eq_false, reduceCtorEq, eq_self, if_true, if_false, true_and, and_true, not_true_eq_false, not_false_eq_true, if_pos, if_neg, z_ite_not, false_or, or_false, true_or, or_true, SWs, swk_0, swk_1, r_isWall, r_isShape, r_isIn, ga, shg, z0', z10']
      · refine ⟨-1, I, J, Igat I (FW a) B1, ?_, ?_, Inv_FR h FR_gat⟩
        · refine callF_at (by omega) (by decide) (Nat.le_of_ble_eq_true rfl) (fun d _ => ?_)
          show Ev X d 139 0 [.ref 0, .int (nI a), .int (nI s), .int w, .retAddr 0, .retAddr 0, .retAddr 0] [] ( mk I J) _
          have bi := bi d (by omega)
          have cl := s_cellsOf (X := X) (d := d) (M := mk I J) (by omega) hF (by omega)
          by_cases y1 : n = 0
          · simp (disch := first | omega | assumption | exact rfl) only [U_139_0, U_139_1, U_139_2, U_139_3, U_139_4, U_139_5, U_139_6, XX, QQ, WW, KK, QX, SHs, RRs, Nat.reduceAdd, Nat.reduceMul, Nat.reduceLeDiff, Nat.reduceEqDiff, List.length_cons, List.length_nil, decide_true, decide_false, Bool.true_and, Bool.and_true, Bool.false_and, Bool.and_false, false_and, and_false, Bool.false_eq_true, Bool.true_eq_false, reduceCtorEq, eq_self, if_true, if_false, true_and, and_true, not_true_eq_false, not_false_eq_true, if_pos, if_neg, z_ite_not, false_or, or_false, true_or, or_true, SWs, swk_0, swk_1, s_isOf, WLs, bi, cl, hj]
          · by_cases y2 : n ≤ 7
            · have y3 : ¬ pop (FS s) = n := fun q => ok ⟨by omega, y2, q⟩
              simp (disch := first | omega | assumption | exact rfl) only [U_139_0, U_139_1, U_139_2, U_139_3, U_139_4, U_139_5, U_139_6, XX, QQ, WW, KK, QX, SHs, RRs, Nat.reduceAdd, Nat.reduceMul, Nat.reduceLeDiff, Nat.reduceEqDiff, List.length_cons, List.length_nil, decide_true, decide_false, Bool.true_and, Bool.and_true, Bool.false_and, Bool.and_false, false_and, and_false, Bool.false_eq_true, Bool.true_eq_false, reduceCtorEq, eq_self, if_true, if_false, true_and, and_true, not_true_eq_false, not_false_eq_true, if_pos, if_neg, z_ite_not, false_or, or_false, true_or, or_true, SWs, swk_0, swk_1, s_isOf, WLs, bi, cl, hj]
            · simp (disch := first | omega | assumption | exact rfl) only [U_139_0, U_139_1, U_139_2, U_139_3, U_139_4, U_139_5, U_139_6, XX, QQ, WW, KK, QX, SHs, RRs, Nat.reduceAdd, Nat.reduceMul, Nat.reduceLeDiff, Nat.reduceEqDiff, List.length_cons, List.length_nil, decide_true, decide_false, Bool.true_and, Bool.and_true, Bool.false_and, Bool.and_false, false_and, and_false, Bool.false_eq_true, Bool.true_eq_false, reduceCtorEq, eq_self, if_true, if_false, true_and, and_true, not_true_eq_false, not_false_eq_true, if_pos, if_neg, z_ite_not, false_or, or_false, true_or, or_true, SWs, swk_0, swk_1, s_isOf, WLs, bi, cl, hj]
        · refine callF_at (by omega) (by decide) (Nat.le_of_ble_eq_true rfl) (fun d _ => ?_)
          show Ev X d 246 0 [.ref 177, .int (nI a), .int (nI s), .int w, .retAddr 0] [] ( mk I J) _
          have ga := ga d (by omega) I J (FC_refl I J)
          have shg : Igat I (FW a) B1 178 (70 + s) = nI (pop (FS s)) := by rw [g178]; exact sh I J (FC_refl I J)
          by_cases y1 : n = 0
          · simp (disch := first | omega | assumption | exact rfl) only [U_246_0, U_246_1, U_246_2, U_246_3, U_246_4, U_246_7, XX, QQ, WW, KK, QX, SHs, RRs, Nat.reduceAdd, Nat.reduceMul, Nat.reduceLeDiff, Nat.reduceEqDiff, List.length_cons, List.length_nil, decide_true, decide_false, Bool.true_and, Bool.and_true, Bool.false_and, Bool.and_false, false_and, and_false, Bool.false_eq_true, Bool.true_eq_false, reduceCtorEq, eq_self, if_true, if_false, true_and, and_true, not_true_eq_false, not_false_eq_true, if_pos, if_neg, z_ite_not, false_or, or_false, true_or, or_true, SWs, swk_0, swk_1, r_isWall, r_isShape, r_isIn, ga, shg]
          · by_cases y2 : n ≤ 7
            · have y3 : ¬ pop (FS s) = n := fun q => ok ⟨by omega, y2, q⟩
              have y4 : ¬ n = pop (FS s) := fun q => y3 q.symm
              simp (disch := first | omega | assumption | exact rfl) only [U_246_0, U_246_1, U_246_2, U_246_3, U_246_4, U_246_7, XX, QQ, WW, KK, QX, SHs, RRs, Nat.reduceAdd, Nat.reduceMul, Nat.reduceLeDiff, Nat.reduceEqDiff, List.length_cons, List.length_nil, decide_true, decide_false, Bool.true_and, Bool.and_true, Bool.false_and, Bool.and_false, false_and, and_false, Bool.false_eq_true, Bool.true_eq_false, reduceCtorEq, eq_self, if_true, if_false, true_and, and_true, not_true_eq_false, not_false_eq_true, if_pos, if_neg, z_ite_not, false_or, or_false, true_or, or_true, SWs, swk_0, swk_1, r_isWall, r_isShape, r_isIn, ga, shg]
            · simp (disch := first | omega | assumption | exact rfl) only [U_246_0, U_246_1, U_246_2, U_246_3, U_246_4, U_246_7, XX, QQ, WW, KK, QX, SHs, RRs, Nat.reduceAdd, Nat.reduceMul, Nat.reduceLeDiff, Nat.reduceEqDiff, List.length_cons, List.length_nil, decide_true, decide_false, Bool.true_and, Bool.and_true, Bool.false_and, Bool.and_false, false_and, and_false, Bool.false_eq_true, Bool.true_eq_false, reduceCtorEq, eq_self, if_true, if_false, true_and, and_true, not_true_eq_false, not_false_eq_true, if_pos, if_neg, z_ite_not, false_or, or_false, true_or, or_true, SWs, swk_0, swk_1, r_isWall, r_isShape, r_isIn, ga, shg]
    · refine Both_0 (-1) h ?_ ?_
      · refine callF_at (by omega) (by decide) (Nat.le_of_ble_eq_true rfl) (fun d _ => ?_)
        show Ev X d 139 0 [.ref 0, .int (nI a), .int v, .int w, .retAddr 0, .retAddr 0, .retAddr 0] [] ( mk I J) _
        simp (disch := first | omega | assumption | exact rfl) only [U_139_0, U_139_1, U_139_2, XX, QQ, WW, KK, QX, SHs, RRs, Nat.reduceAdd, Nat.reduceMul, Nat.reduceLeDiff, Nat.reduceEqDiff, List.length_cons, List.length_nil, decide_true, decide_false, Bool.true_and, Bool.and_true, Bool.false_and, Bool.and_false, false_and, and_false, Bool.false_eq_true, Bool.true_eq_false, reduceCtorEq, eq_self, if_true, if_false, true_and, and_true, not_true_eq_false, not_false_eq_true, if_pos, if_neg, z_ite_not, false_or, or_false, true_or, or_true, SWs, swk_0, swk_1, s_isOf, o1]
      · refine callF_at (by omega) (by decide) (Nat.le_of_ble_eq_true rfl) (fun d _ => ?_)
        show Ev X d 246 0 [.ref 177, .int (nI a), .int v, .int w, .retAddr 0] [] ( mk I J) _
        simp (disch := first | omega | assumption | exact rfl) only [U_246_0, U_246_1, U_246_2, XX, QQ, WW, KK, QX, SHs, RRs, Nat.reduceAdd, Nat.reduceMul, Nat.reduceLeDiff, Nat.reduceEqDiff, List.length_cons, List.length_nil, decide_true, decide_false, Bool.true_and, Bool.and_true, Bool.false_and, Bool.and_false, false_and, and_false, Bool.false_eq_true, Bool.true_eq_false, reduceCtorEq, eq_self, if_true, if_false, true_and, and_true, not_true_eq_false, not_false_eq_true, if_pos, if_neg, z_ite_not, false_or, or_false, true_or, or_true, SWs, swk_0, swk_1, r_isWall, r_isShape, o2]
  · refine Both_0 (-1) h ?_ ?_
    · refine callF_at (by omega) (by decide) (Nat.le_of_ble_eq_true rfl) (fun d _ => ?_)
      show Ev X d 139 0 [.ref 0, .int u, .int v, .int w, .retAddr 0, .retAddr 0, .retAddr 0] [] ( mk I J) _
      simp (disch := first | omega | assumption | exact rfl) only [U_139_0, U_139_1, U_139_2, XX, QQ, WW, KK, QX, SHs, RRs, Nat.reduceAdd, Nat.reduceMul, Nat.reduceLeDiff, Nat.reduceEqDiff, List.length_cons, List.length_nil, decide_true, decide_false, Bool.true_and, Bool.and_true, Bool.false_and, Bool.and_false, false_and, and_false, Bool.false_eq_true, Bool.true_eq_false, reduceCtorEq, eq_self, if_true, if_false, true_and, and_true, not_true_eq_false, not_false_eq_true, if_pos, if_neg, z_ite_not, false_or, or_false, true_or, or_true, SWs, swk_0, swk_1, s_isOf, o1]
    · refine callF_at (by omega) (by decide) (Nat.le_of_ble_eq_true rfl) (fun d _ => ?_)
      show Ev X d 246 0 [.ref 177, .int u, .int v, .int w, .retAddr 0] [] ( mk I J) _
      simp (disch := first | omega | assumption | exact rfl) only [U_246_0, U_246_1, U_246_2, XX, QQ, WW, KK, QX, SHs, RRs, Nat.reduceAdd, Nat.reduceMul, Nat.reduceLeDiff, Nat.reduceEqDiff, List.length_cons, List.length_nil, decide_true, decide_false, Bool.true_and, Bool.and_true, Bool.false_and, Bool.and_false, false_and, and_false, Bool.false_eq_true, Bool.true_eq_false, reduceCtorEq, eq_self, if_true, if_false, true_and, and_true, not_true_eq_false, not_false_eq_true, if_pos, if_neg, z_ite_not, false_or, or_false, true_or, or_true, SWs, swk_0, swk_1, r_isWall, r_isShape, o2]
