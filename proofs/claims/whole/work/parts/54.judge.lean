/-! ===== judge ===== -/
/-- the first of k from i on that isn't good -/
def fk (g : Nat → Bool) : Nat → Nat → Int32
  | 0, _ => -1
  | k + 1, i => if g i = true then fk g k (i + 1) else nI i
theorem dg_mod (r j : Nat) : r % 6 ^ (j + 1) / 6 ^ j = r / 6 ^ j % 6 := by
  rw [Nat.pow_succ, Nat.mod_mul_right_div_self]
theorem pow6_le {j : Nat} (h : j ≤ 6) : 6 ^ j ≤ 46656 := Nat.le_trans (Nat.pow_le_pow_right (by decide) h) (by decide)
theorem pow6_pos (j : Nat) : 0 < 6 ^ j := Nat.pow_pos (by decide)
theorem n6 : (nI 6 : Int32) ≠ 0 := by decide +kernel
theorem b_judge {X : Nat × (Nat → Int32)} {d : Nat} {I : Nat → Nat → Int32} {J : Nat → Nat → Int64} {u v : Int32} (hd : 6 ≤ d) (h : Inv I J) : Both X d 130 215 [.int u, .int v] I J := by
  obtain ⟨FW, hw⟩ := Inv_wl h
  obtain ⟨_, al, be, yr, s1, s2, s3, s4, s5, s6, s7, s8, s9⟩ := Inv_sc h
  obtain ⟨mks, brk, hm⟩ := Inv_mk h
  have hv : (∃ n, 2 ≤ n ∧ n ≤ 6 ∧ v = nI n) ∨ (v < nI 2 ∨ (¬ v < nI 2 ∧ nI 6 < v)) := by
    by_cases h1 : v < nI 2
    · exact .inr (.inl h1)
    · by_cases h2 : nI 6 < v
      · exact .inr (.inr ⟨h1, h2⟩)
      · have h0 : ¬ v < 0 := fun z => h1 (fa_trans z (by decide +kernel))
        obtain ⟨n, hn, rfl⟩ := nI_of h0
        rw [nI_ltI hn (by decide)] at h1
        rw [nI_ltI (by decide) hn] at h2
        exact .inl ⟨n, by omega, by omega, rfl⟩
  rcases hv with ⟨n, n2, n6', rfl⟩ | hv
  · by_cases hu : u < 0
    · have hu' : ¬ nI 0 ≤ u := (fa_of_lt hu).2.1
      have hg : ¬ 0 ≤ u := (fa_of_lt hu).2.1
      refine Both_0 (-2) h ?_ ?_
      · refine callF_at (by omega) (by decide) (Nat.le_of_ble_eq_true rfl) (fun d _ => ?_)
        show Ev X d 130 0 [.ref 0, .int u, .int (nI n), .retAddr 0, .retAddr 0, .retAddr 0, .retAddr 0] [] ( mk I J) _
        simp (disch := first | omega | assumption | exact rfl) only [U_130_0, U_130_1, U_130_2, U_130_3, XX, QQ, WW, KK, QX, SHs, RRs, Nat.reduceAdd, Nat.reduceMul, Nat.reduceLeDiff, Nat.reduceEqDiff, List.length_cons, List.length_nil, decide_true, decide_false, Bool.true_and, Bool.and_true, Bool.false_and, Bool.and_false, false_and, and_false, Bool.false_eq_true, Bool.true_eq_false, reduceCtorEq, eq_self, if_true, if_false, true_and, and_true, not_true_eq_false, not_false_eq_true, if_pos, if_neg, z_ite_not, false_or, or_false, true_or, or_true, SWs, swk_0, swk_1, hg]
      · refine callF_at (by omega) (by decide) (Nat.le_of_ble_eq_true rfl) (fun d _ => ?_)
        show Ev X d 215 0 [.ref 177, .int u, .int (nI n), .retAddr 0, .retAddr 0, .retAddr 0, .retAddr 0] [] ( mk I J) _
        simp (disch := first | omega | assumption | exact rfl) only [U_215_0, U_215_2, XX, QQ, WW, KK, QX, SHs, RRs, Nat.reduceAdd, Nat.reduceMul, Nat.reduceLeDiff, Nat.reduceEqDiff, List.length_cons, List.length_nil, decide_true, decide_false, Bool.true_and, Bool.and_true, Bool.false_and, Bool.and_false, false_and, and_false, Bool.false_eq_true, Bool.true_eq_false, reduceCtorEq, eq_self, if_true, if_false, true_and, and_true, not_true_eq_false, not_false_eq_true, if_pos, if_neg, z_ite_not, false_or, or_false, true_or, or_true, SWs, swk_0, swk_1, r_isIn]
        refine lp0 (n := n) (P := fun k => Ev X d 215 3 [.ref 177, .int u, .int (nI n), .int (nI (6 ^ k)), .int (nI k), .retAddr 0, .retAddr 0] [] (mk I J) (some (.int (-2)), mk I J)) ?_ ?_
        · rw [U_215_3]
          simp (disch := first | omega | assumption | exact rfl) only [U_215_5, U_215_6, XX, QQ, WW, KK, QX, SHs, RRs, Nat.reduceAdd, Nat.reduceMul, Nat.reduceLeDiff, Nat.reduceEqDiff, List.length_cons, List.length_nil, decide_true, decide_false, Bool.true_and, Bool.and_true, Bool.false_and, Bool.and_false, false_and, and_false, Bool.false_eq_true, Bool.true_eq_false, reduceCtorEq, eq_self, if_true, if_false, true_and, and_true, not_true_eq_false, not_false_eq_true, if_pos, if_neg, z_ite_not, false_or, or_false, true_or, or_true, SWs, swk_0, swk_1, r_isIn, hu']
        · intro k hk ih
          rw [U_215_3]
          rw [Nat.pow_succ] at ih
          simp (disch := first | omega | assumption | exact rfl) only [U_215_4, XX, QQ, WW, KK, QX, SHs, RRs, Nat.reduceAdd, Nat.reduceMul, Nat.reduceLeDiff, Nat.reduceEqDiff, List.length_cons, List.length_nil, decide_true, decide_false, Bool.true_and, Bool.and_true, Bool.false_and, Bool.and_false, false_and, and_false, Bool.false_eq_true, Bool.true_eq_false, reduceCtorEq, eq_self, if_true, if_false, true_and, and_true, not_true_eq_false, not_false_eq_true, if_pos, if_neg, z_ite_not, false_or, or_false, true_or, or_true, SWs, swk_0, swk_1]
          exact ih
    · obtain ⟨r, hr, rfl⟩ := nI_of hu
      obtain ⟨g, hg⟩ : ∃ g : Nat → Bool, g = fun k => decide (pop (badS (FW (r / 6 ^ (n - k) % 6)) (I (14 + 4 * (r / 6 ^ (n - k) % 6) + 1)) (FW (r / 6 ^ (n - 1 - k) % 6)) (I (14 + 4 * (r / 6 ^ (n - 1 - k) % 6) + 1)) al mks) ≤ be) := ⟨_, rfl⟩
      -- the class
      have hc : ∀ d, 4 ≤ d → ∃ I1, FC I I1 J J ∧ callF X (d + 1) 130 [.ref 0, .int (nI r), .int (nI n)] (mk I J) = some (some (.int (if r < 6 ^ n then fk g (n - 1) 1 else -2)), mk I1 J) := by
        intro d hd
        have L : ∃ I1, FC I I1 J J ∧ Ev X d 130 5 [.ref 0, .int (nI r), .int (nI n), .int (-1), .int (nI r), .int (nI (n - 1)), .retAddr 0] [] (mk I J) (some (.int (if r < 6 ^ n then fk g (n - 1) 1 else -2)), mk I1 J) := by
          refine lpI (n := n - 1) (P := fun t => ∀ I0, FC I I0 J J → ∀ u6 : Value, ∃ I1, FC I I1 J J ∧ Ev X d 130 5 [.ref 0, .int (nI r), .int (nI n), .int (fk g t (n - t)), .int (nI (r / 6 ^ t)), .int (nI (n - 1 - t)), u6] [] (mk I0 J) (some (.int (if r < 6 ^ n then fk g (n - 1) 1 else -2)), mk I1 J)) ?_ ?_ (fun L => ?_)
          · intro I0 hI0 u6
            refine ⟨I0, hI0, ?_⟩
            rw [show n - 1 - (n - 1) = 0 by omega, show n - (n - 1) = 1 by omega]
            have hdv : r / 6 ^ (n - 1) < 6 ↔ r < 6 ^ n := by
              rw [Nat.div_lt_iff_lt_mul (pow6_pos _), show 6 * 6 ^ (n - 1) = 6 ^ n by rw [Nat.mul_comm, ← Nat.pow_succ]; congr 1; omega]
            have hle : r / 6 ^ (n - 1) ≤ r := Nat.div_le_self _ _
            by_cases z : r < 6 ^ n
            · have := hdv.mpr z
              rw [if_pos z]
              simp (disch := first | omega | assumption | exact rfl) only [U_130_5, U_130_9, U_130_10, U_130_11, U_130_12, XX, QQ, WW, KK, QX, SHs, RRs, Nat.reduceAdd, Nat.reduceMul, Nat.reduceLeDiff, Nat.reduceEqDiff, List.length_cons, List.length_nil, decide_true, decide_false, Bool.true_and, Bool.and_true, Bool.false_and, Bool.and_false, false_and, and_false, Bool.false_eq_true, Bool.true_eq_false, reduceCtorEq, eq_self, if_true, if_false, true_and, and_true, not_true_eq_false, not_false_eq_true, if_pos, if_neg, z_ite_not, false_or, or_false, true_or, or_true, SWs, swk_0, swk_1]
            · have : ¬ r / 6 ^ (n - 1) < 6 := fun y => z (hdv.mp y)
              rw [if_neg z]
              simp (disch := first | omega | assumption | exact rfl) only [U_130_5, U_130_9, U_130_10, U_130_11, U_130_12, XX, QQ, WW, KK, QX, SHs, RRs, Nat.reduceAdd, Nat.reduceMul, Nat.reduceLeDiff, Nat.reduceEqDiff, List.length_cons, List.length_nil, decide_true, decide_false, Bool.true_and, Bool.and_true, Bool.false_and, Bool.and_false, false_and, and_false, Bool.false_eq_true, Bool.true_eq_false, reduceCtorEq, eq_self, if_true, if_false, true_and, and_true, not_true_eq_false, not_false_eq_true, if_pos, if_neg, z_ite_not, false_or, or_false, true_or, or_true, SWs, swk_0, swk_1]
          · intro t ht ih I0 hI0 u6
            have a1 : r / 6 ^ t % 6 < 6 := Nat.mod_lt _ (by decide)
            have a2 : r / 6 ^ (t + 1) % 6 < 6 := Nat.mod_lt _ (by decide)
            obtain ⟨hG1, hB1, hR1⟩ := hw _ a2
            obtain ⟨hG2, hB2, hR2⟩ := hw _ a1
            have hG1' : WG (mk I0 J) (14 + 4 * (r / 6 ^ (t + 1) % 6)) (FW (r / 6 ^ (t + 1) % 6)) := WG_fr hG1 (fun a h1 h2 => hI0.1 a (by omega)) rfl
            have hG2' : WG (mk I0 J) (14 + 4 * (r / 6 ^ t % 6)) (FW (r / 6 ^ t % 6)) := WG_fr hG2 (fun a h1 h2 => hI0.1 a (by omega)) rfl
            have e1 : I0 (14 + 4 * (r / 6 ^ (t + 1) % 6) + 1) = I (14 + 4 * (r / 6 ^ (t + 1) % 6) + 1) := hI0.1 _ (by omega)
            have e2 : I0 (14 + 4 * (r / 6 ^ t % 6) + 1) = I (14 + 4 * (r / 6 ^ t % 6) + 1) := hI0.1 _ (by omega)
            have ig := c_isGood (X := X) (d := d) (by omega) hG1' (by rw [e1]; exact hB1) hG2' (by rw [e2]; exact hB2) (by omega) (by omega) (by rw [hI0.1 _ (by omega)]; exact s4) s1 (by rw [hI0.1 _ (by omega)]; exact (fun k hk => (hm k hk).2.2.1)) (fun k hk => (hm k hk).1) (by rw [hI0.1 _ (by omega)]; exact s6) s2
            rw [e1, e2] at ig
            have eg : g (n - (t + 1)) = decide (pop (badS (FW (r / 6 ^ (t + 1) % 6)) (I (14 + 4 * (r / 6 ^ (t + 1) % 6) + 1)) (FW (r / 6 ^ t % 6)) (I (14 + 4 * (r / 6 ^ t % 6) + 1)) al mks) ≤ be) := by
              rw [hg]
              show decide (pop (badS (FW (r / 6 ^ (n - (n - (t + 1))) % 6)) (I (14 + 4 * (r / 6 ^ (n - (n - (t + 1))) % 6) + 1)) (FW (r / 6 ^ (n - 1 - (n - (t + 1))) % 6)) (I (14 + 4 * (r / 6 ^ (n - 1 - (n - (t + 1))) % 6) + 1)) al mks) ≤ be) = _
              rw [show n - (n - (t + 1)) = t + 1 by omega, show n - 1 - (n - (t + 1)) = t by omega]
            rw [← eg] at ig
            obtain ⟨I', hI', ig⟩ : ∃ I', FC I0 I' J J ∧ callF X d 128 [.ref 0, .ref (14 + 4 * (r / 6 ^ (t + 1) % 6)), .ref (14 + 4 * (r / 6 ^ t % 6))] (mk I0 J) = some (some (.int (bI (g (n - (t + 1))))), mk I' J) := ⟨_, FC_near, ig⟩
            obtain ⟨I1, hI1, q⟩ := ih _ (FC_trans hI0 hI') (.int (nI (r / 6 ^ t % 6)))
            refine ⟨I1, hI1, ?_⟩
            have hle : r / 6 ^ t ≤ r := Nat.div_le_self _ _
            have hdd : r / 6 ^ t / 6 = r / 6 ^ (t + 1) := by rw [Nat.div_div_eq_div_mul, ← Nat.pow_succ]
            have e5 : r / 6 ^ t - r / 6 ^ t / 6 * 6 = r / 6 ^ t % 6 := by omega
            rw [hdd] at e5
            have hle2 : r / 6 ^ (t + 1) ≤ r := Nat.div_le_self _ _
            have e6 : r / 6 ^ (t + 1) - r / 6 ^ (t + 1) / 6 * 6 = r / 6 ^ (t + 1) % 6 := by omega
            have le1 : r / 6 ^ (t + 1) * 6 ≤ r / 6 ^ t := by rw [← hdd]; omega
            have e7 : n - 1 - t - 1 = n - 1 - (t + 1) := by omega
            have e8 : n - (t + 1) = n - 1 - t := by omega
            rw [fk, show n - (t + 1) + 1 = n - t by omega] at q
            cases hgt : g (n - (t + 1)) with
            | true =>
              rw [hgt] at ig q
              rw [if_pos rfl] at q
              rw [U_130_5]
              simp (disch := first | omega | assumption | exact rfl) only [U_130_6, U_130_7, U_130_8, XX, QQ, WW, KK, QX, SHs, RRs, Nat.reduceAdd, Nat.reduceMul, Nat.reduceLeDiff, Nat.reduceEqDiff, List.length_cons, List.length_nil, decide_true, decide_false, Bool.true_and, Bool.and_true, Bool.false_and, Bool.and_false, false_and, and_false, Bool.false_eq_true, Bool.true_eq_false, reduceCtorEq, eq_self, if_true, if_false, true_and, and_true, not_true_eq_false, not_false_eq_true, if_pos, if_neg, z_ite_not, false_or, or_false, true_or, or_true, SWs, swk_0, swk_1, q_div, n6, hdd, e5, e6, WLs, ig, e7, q_0lt]
              exact q
            | false =>
              rw [hgt] at ig q
              rw [if_neg (by simp)] at q
              rw [U_130_5]
              rw [e8] at q
              simp (disch := first | omega | assumption | exact rfl) only [U_130_6, U_130_7, U_130_8, XX, QQ, WW, KK, QX, SHs, RRs, Nat.reduceAdd, Nat.reduceMul, Nat.reduceLeDiff, Nat.reduceEqDiff, List.length_cons, List.length_nil, decide_true, decide_false, Bool.true_and, Bool.and_true, Bool.false_and, Bool.and_false, false_and, and_false, Bool.false_eq_true, Bool.true_eq_false, reduceCtorEq, eq_self, if_true, if_false, true_and, and_true, not_true_eq_false, not_false_eq_true, if_pos, if_neg, z_ite_not, false_or, or_false, true_or, or_true, SWs, swk_0, swk_1, q_div, n6, hdd, e5, e6, WLs, ig, e7, q_0lt]
              exact q
          · have := L I (FC_refl I J) (.retAddr 0)
            rw [Nat.pow_zero, Nat.div_one] at this
            exact this
        obtain ⟨I1, h1, L⟩ := L
        refine ⟨I1, h1, ?_⟩
        refine callF_at (by omega) (by decide) (Nat.le_of_ble_eq_true rfl) (fun d' hd' => ?_)
        obtain rfl : d = d' := by omega
        show Ev X d 130 0 [.ref 0, .int (nI r), .int (nI n), .retAddr 0, .retAddr 0, .retAddr 0, .retAddr 0] [] (mk I J) _
        simp (disch := first | omega | assumption | exact rfl) only [U_130_0, U_130_1, U_130_2, U_130_4, XX, QQ, WW, KK, QX, SHs, RRs, Nat.reduceAdd, Nat.reduceMul, Nat.reduceLeDiff, Nat.reduceEqDiff, List.length_cons, List.length_nil, decide_true, decide_false, Bool.true_and, Bool.and_true, Bool.false_and, Bool.and_false, false_and, and_false, Bool.false_eq_true, Bool.true_eq_false, reduceCtorEq, eq_self, if_true, if_false, true_and, and_true, not_true_eq_false, not_false_eq_true, if_pos, if_neg, z_ite_not, false_or, or_false, true_or, or_true, SWs, swk_0, swk_1]
        exact L
      -- the reference
      have hrf : ∀ d, 5 ≤ d → ∀ I1 J1, FC I I1 J J1 → ∃ I2, FR I1 I2 ∧ callF X (d + 1) 215 [.ref 177, .int (nI r), .int (nI n)] (mk I1 J1) = some (some (.int (if r < 6 ^ n then fk g (n - 1) 1 else -2)), mk I2 J1) := by
        intro d hd I1 J1 hF
        have p1 := pow6_le n6'
        have L2 : r < 6 ^ n → ∃ I2, FR I1 I2 ∧ Ev X d 215 7 [.ref 177, .int (nI r), .int (nI n), .int (nI (6 ^ n)), .int (nI n), .retAddr 0, .retAddr 0] [] (mk I1 J1) (some (.int (fk g (n - 1) 1)), mk I2 J1) := by
          intro hrn
          have L3 : ∃ I2, FR I1 I2 ∧ Ev X d 215 8 [.ref 177, .int (nI r), .int (nI n), .int (nI (6 ^ n)), .int (nI (r / 6 ^ (n - 1))), .int (nI 1), .retAddr 0] [] (mk I1 J1) (some (.int (fk g (n - 1) 1)), mk I2 J1) := by
            refine lpI (n := n - 1) (P := fun t => ∀ I0, FR I1 I0 → ∀ u6 : Value, ∃ I2, FR I1 I2 ∧ Ev X d 215 8 [.ref 177, .int (nI r), .int (nI n), .int (nI (6 ^ (n - t))), .int (nI (r / 6 ^ (n - 1 - t) % 6)), .int (nI (t + 1)), u6] [] (mk I0 J1) (some (.int (fk g (n - 1 - t) (t + 1))), mk I2 J1)) ?_ ?_ (fun L => ?_)
            · intro I0 hI0 u6
              refine ⟨I0, hI0, ?_⟩
              rw [show n - 1 - (n - 1) = 0 by omega, fk, U_215_8]
              simp (disch := first | omega | assumption | exact rfl) only [U_215_12, XX, QQ, WW, KK, QX, SHs, RRs, Nat.reduceAdd, Nat.reduceMul, Nat.reduceLeDiff, Nat.reduceEqDiff, List.length_cons, List.length_nil, decide_true, decide_false, Bool.true_and, Bool.and_true, Bool.false_and, Bool.and_false, false_and, and_false, Bool.false_eq_true, Bool.true_eq_false, reduceCtorEq, eq_self, if_true, if_false, true_and, and_true, not_true_eq_false, not_false_eq_true, if_pos, if_neg, z_ite_not, false_or, or_false, true_or, or_true, SWs, swk_0, swk_1]
            · intro t ht ih I0 hI0 u6
              have a1 : r / 6 ^ (n - 1 - t) % 6 < 6 := Nat.mod_lt _ (by decide)
              have a2 : r / 6 ^ (n - 1 - (t + 1)) % 6 < 6 := Nat.mod_lt _ (by decide)
              obtain ⟨hG1, hB1, hR1⟩ := hw _ a1
              obtain ⟨hG2, hB2, hR2⟩ := hw _ a2
              have e0 : I0 178 = I 178 := by rw [hI0.2.1, hF.1 _ (by omega)]
              have ig := r_isGood (X := X) (d := d) (J := J1) (I := I0) (by omega) a1 a2 (by rw [e0]; exact hR1) hB1 (by rw [e0]; exact hR2) hB2 (by rw [e0]; exact s5) s1 (by rw [e0]; exact (fun k hk => (hm k hk).2.2.2.1)) (fun k hk => (hm k hk).1) (by rw [e0]; exact s7) s2
              have eg : g (t + 1) = decide (pop (badS (FW (r / 6 ^ (n - 1 - t) % 6)) (I (14 + 4 * (r / 6 ^ (n - 1 - t) % 6) + 1)) (FW (r / 6 ^ (n - 1 - (t + 1)) % 6)) (I (14 + 4 * (r / 6 ^ (n - 1 - (t + 1)) % 6) + 1)) al mks) ≤ be) := by
                rw [hg, show n - 1 - t = n - (t + 1) by omega]
              rw [← eg] at ig
              obtain ⟨I', hI', ig⟩ : ∃ I', FR I0 I' ∧ callF X d 212 [.ref 177, .int (nI (r / 6 ^ (n - 1 - t) % 6)), .int (nI (r / 6 ^ (n - 1 - (t + 1)) % 6))] (mk I0 J1) = some (some (.int (bI (g (t + 1)))), mk I' J1) := ⟨_, FR_cmp, ig⟩
              obtain ⟨I2, hI2, q⟩ := ih _ (FR_trans hI0 hI') (.int (nI (r / 6 ^ (n - 1 - (t + 1)) % 6)))
              have p2 := pow6_le (j := n - t) (by omega)
              have p3 := pow6_pos (n - t - 1)
              have e1 : 6 ^ (n - t) / 6 = 6 ^ (n - t - 1) := by
                have : 6 ^ (n - t) = 6 ^ (n - t - 1) * 6 := by rw [← Nat.pow_succ]; congr 1; omega
                omega
              have e2 : 6 ^ (n - t - 1) / 6 = 6 ^ (n - 1 - (t + 1)) := by
                have : 6 ^ (n - t - 1) = 6 ^ (n - 1 - (t + 1)) * 6 := by rw [← Nat.pow_succ]; congr 1; omega
                omega
              have p4 := pow6_pos (n - 1 - (t + 1))
              have p5 := pow6_le (j := n - t - 1) (by omega)
              have p6 := pow6_le (j := n - 1 - (t + 1)) (by omega)
              have e3 : (r - r / 6 ^ (n - t - 1) * 6 ^ (n - t - 1)) / 6 ^ (n - 1 - (t + 1)) = r / 6 ^ (n - 1 - (t + 1)) % 6 := by
                have : r - r / 6 ^ (n - t - 1) * 6 ^ (n - t - 1) = r % 6 ^ (n - t - 1) := by
                  have := Nat.div_add_mod r (6 ^ (n - t - 1))
                  rw [Nat.mul_comm] at this; omega
                rw [this, show n - t - 1 = n - 1 - (t + 1) + 1 by omega, dg_mod]
              have le1 : r / 6 ^ (n - t - 1) * 6 ^ (n - t - 1) ≤ r := Nat.div_mul_le_self _ _
              have lt2 : r - r / 6 ^ (n - t - 1) * 6 ^ (n - t - 1) < 2 ^ 31 := by omega
              have e4 : n - (t + 1) = n - t - 1 := by omega
              have z1 : ∀ a, 0 < a → a < 2 ^ 31 → ¬ (nI a = 0) := fun a h1 h2 z => by
                rw [q_eq0 h2] at z; omega
              have z2 := z1 _ p3 (by omega)
              have z3 := z1 _ p4 (by omega)
              rw [show n - 1 - t = (n - 1 - (t + 1)) + 1 by omega, fk]
              rw [e4] at q
              cases hgt : g (t + 1) with
              | true =>
                rw [hgt] at ig
                refine ⟨I2, hI2, ?_⟩
                rw [if_pos rfl, U_215_8, show n - 1 - (t + 1) + 1 = n - 1 - t by omega]
                simp (disch := first | omega | assumption | exact rfl) only [U_215_9, U_215_11, XX, QQ, WW, KK, QX, SHs, RRs, Nat.reduceAdd, Nat.reduceMul, Nat.reduceLeDiff, Nat.reduceEqDiff, List.length_cons, List.length_nil, decide_true, decide_false, Bool.true_and, Bool.and_true, Bool.false_and, Bool.and_false, false_and, and_false, Bool.false_eq_true, Bool.true_eq_false, reduceCtorEq, eq_self, if_true, if_false, true_and, and_true, not_true_eq_false, not_false_eq_true, if_pos, if_neg, z_ite_not, false_or, or_false, true_or, or_true, SWs, swk_0, swk_1, q_div, n6, e1, e2, e3, z2, z3, ig]
                exact q
              | false =>
                rw [hgt] at ig
                refine ⟨_, FR_trans hI0 hI', ?_⟩
                rw [if_neg (by simp), U_215_8, show n - 1 - (t + 1) + 1 = n - 1 - t by omega]
                simp (disch := first | omega | assumption | exact rfl) only [U_215_9, U_215_10, XX, QQ, WW, KK, QX, SHs, RRs, Nat.reduceAdd, Nat.reduceMul, Nat.reduceLeDiff, Nat.reduceEqDiff, List.length_cons, List.length_nil, decide_true, decide_false, Bool.true_and, Bool.and_true, Bool.false_and, Bool.and_false, false_and, and_false, Bool.false_eq_true, Bool.true_eq_false, reduceCtorEq, eq_self, if_true, if_false, true_and, and_true, not_true_eq_false, not_false_eq_true, if_pos, if_neg, z_ite_not, false_or, or_false, true_or, or_true, SWs, swk_0, swk_1, q_div, n6, e1, e2, e3, z2, z3, ig]
            · have := L I1 (FR_refl I1) (.retAddr 0)
              rw [Nat.sub_zero, Nat.sub_zero, Nat.zero_add, Nat.mod_eq_of_lt (a := r / 6 ^ (n - 1)) (by
                rw [Nat.div_lt_iff_lt_mul (pow6_pos _), show 6 * 6 ^ (n - 1) = 6 ^ n by rw [Nat.mul_comm, ← Nat.pow_succ]; congr 1; omega]; exact hrn)] at this
              exact this
          obtain ⟨I2, hI2, L3⟩ := L3
          refine ⟨I2, hI2, ?_⟩
          have p3 := pow6_pos (n - 1)
          have p5 := pow6_le (j := n - 1) (by omega)
          have e1 : 6 ^ n / 6 = 6 ^ (n - 1) := by
            have : 6 ^ n = 6 ^ (n - 1) * 6 := by rw [← Nat.pow_succ]; congr 1; omega
            omega
          have z2 : ¬ (nI (6 ^ (n - 1)) = 0) := fun z => by rw [q_eq0 (by omega)] at z; omega
          simp (disch := first | omega | assumption | exact rfl) only [U_215_7, XX, QQ, WW, KK, QX, SHs, RRs, Nat.reduceAdd, Nat.reduceMul, Nat.reduceLeDiff, Nat.reduceEqDiff, List.length_cons, List.length_nil, decide_true, decide_false, Bool.true_and, Bool.and_true, Bool.false_and, Bool.and_false, false_and, and_false, Bool.false_eq_true, Bool.true_eq_false, reduceCtorEq, eq_self, if_true, if_false, true_and, and_true, not_true_eq_false, not_false_eq_true, if_pos, if_neg, z_ite_not, false_or, or_false, true_or, or_true, SWs, swk_0, swk_1, q_div, n6, e1, z2]
          exact L3
        have L1 : ∃ I2, FR I1 I2 ∧ Ev X d 215 5 [.ref 177, .int (nI r), .int (nI n), .int (nI (6 ^ n)), .int (nI n), .retAddr 0, .retAddr 0] [] (mk I1 J1) (some (.int (if r < 6 ^ n then fk g (n - 1) 1 else -2)), mk I2 J1) := by
          have p3 := pow6_pos n
          by_cases z : r < 6 ^ n
          · obtain ⟨I2, hI2, L2⟩ := L2 z
            refine ⟨I2, hI2, ?_⟩
            rw [if_pos z]
            simp (disch := first | omega | assumption | exact rfl) only [U_215_5, XX, QQ, WW, KK, QX, SHs, RRs, Nat.reduceAdd, Nat.reduceMul, Nat.reduceLeDiff, Nat.reduceEqDiff, List.length_cons, List.length_nil, decide_true, decide_false, Bool.true_and, Bool.and_true, Bool.false_and, Bool.and_false, false_and, and_false, Bool.false_eq_true, Bool.true_eq_false, reduceCtorEq, eq_self, if_true, if_false, true_and, and_true, not_true_eq_false, not_false_eq_true, if_pos, if_neg, z_ite_not, false_or, or_false, true_or, or_true, SWs, swk_0, swk_1, r_isIn]
            exact L2
          · refine ⟨I1, FR_refl I1, ?_⟩
            rw [if_neg z]
            simp (disch := first | omega | assumption | exact rfl) only [U_215_5, U_215_6, XX, QQ, WW, KK, QX, SHs, RRs, Nat.reduceAdd, Nat.reduceMul, Nat.reduceLeDiff, Nat.reduceEqDiff, List.length_cons, List.length_nil, decide_true, decide_false, Bool.true_and, Bool.and_true, Bool.false_and, Bool.and_false, false_and, and_false, Bool.false_eq_true, Bool.true_eq_false, reduceCtorEq, eq_self, if_true, if_false, true_and, and_true, not_true_eq_false, not_false_eq_true, if_pos, if_neg, z_ite_not, false_or, or_false, true_or, or_true, SWs, swk_0, swk_1, r_isIn]
        obtain ⟨I2, hI2, L1⟩ := L1
        refine ⟨I2, hI2, ?_⟩
        refine callF_at (by omega) (by decide) (Nat.le_of_ble_eq_true rfl) (fun d' hd' => ?_)
        obtain rfl : d = d' := by omega
        show Ev X d 215 0 [.ref 177, .int (nI r), .int (nI n), .retAddr 0, .retAddr 0, .retAddr 0, .retAddr 0] [] (mk I1 J1) _
        simp (disch := first | omega | assumption | exact rfl) only [U_215_0, U_215_2, XX, QQ, WW, KK, QX, SHs, RRs, Nat.reduceAdd, Nat.reduceMul, Nat.reduceLeDiff, Nat.reduceEqDiff, List.length_cons, List.length_nil, decide_true, decide_false, Bool.true_and, Bool.and_true, Bool.false_and, Bool.and_false, false_and, and_false, Bool.false_eq_true, Bool.true_eq_false, reduceCtorEq, eq_self, if_true, if_false, true_and, and_true, not_true_eq_false, not_false_eq_true, if_pos, if_neg, z_ite_not, false_or, or_false, true_or, or_true, SWs, swk_0, swk_1, r_isIn]
        refine lp0 (n := n) (P := fun k => Ev X d 215 3 [.ref 177, .int (nI r), .int (nI n), .int (nI (6 ^ k)), .int (nI k), .retAddr 0, .retAddr 0] [] (mk I1 J1) (some (.int (if r < 6 ^ n then fk g (n - 1) 1 else -2)), mk I2 J1)) ?_ ?_
        · rw [U_215_3]
          simp (disch := first | omega | assumption | exact rfl) only [U_215_12, XX, QQ, WW, KK, QX, SHs, RRs, Nat.reduceAdd, Nat.reduceMul, Nat.reduceLeDiff, Nat.reduceEqDiff, List.length_cons, List.length_nil, decide_true, decide_false, Bool.true_and, Bool.and_true, Bool.false_and, Bool.and_false, false_and, and_false, Bool.false_eq_true, Bool.true_eq_false, reduceCtorEq, eq_self, if_true, if_false, true_and, and_true, not_true_eq_false, not_false_eq_true, if_pos, if_neg, z_ite_not, false_or, or_false, true_or, or_true, SWs, swk_0, swk_1]
          exact L1
        · intro k hk ih
          rw [U_215_3]
          rw [Nat.pow_succ] at ih
          simp (disch := first | omega | assumption | exact rfl) only [U_215_4, XX, QQ, WW, KK, QX, SHs, RRs, Nat.reduceAdd, Nat.reduceMul, Nat.reduceLeDiff, Nat.reduceEqDiff, List.length_cons, List.length_nil, decide_true, decide_false, Bool.true_and, Bool.and_true, Bool.false_and, Bool.and_false, false_and, and_false, Bool.false_eq_true, Bool.true_eq_false, reduceCtorEq, eq_self, if_true, if_false, true_and, and_true, not_true_eq_false, not_false_eq_true, if_pos, if_neg, z_ite_not, false_or, or_false, true_or, or_true, SWs, swk_0, swk_1]
          exact ih
      obtain ⟨d, rfl⟩ : ∃ d', d = d' + 1 := ⟨d - 1, by omega⟩
      refine Both_q (if r < 6 ^ n then fk g (n - 1) 1 else -2) h ?_ (fun I1 J1 hI1 hF => ?_)
      · obtain ⟨I1, h1, h2⟩ := hc d (by omega)
        exact ⟨I1, J, h2, h1⟩
      · obtain ⟨I2, h1, h2⟩ := hrf d (by omega) I1 J1 hF
        exact ⟨I2, h2, h1⟩
  · refine Both_0 (-2) h ?_ ?_
    · refine callF_at (by omega) (by decide) (Nat.le_of_ble_eq_true rfl) (fun d _ => ?_)
      show Ev X d 130 0 [.ref 0, .int u, .int v, .retAddr 0, .retAddr 0, .retAddr 0, .retAddr 0] [] ( mk I J) _
      rcases hv with z | ⟨z1, z2⟩
      · simp (disch := first | omega | assumption | exact rfl) only [U_130_0, U_130_1, U_130_2, U_130_3, XX, QQ, WW, KK, QX, SHs, RRs, Nat.reduceAdd, Nat.reduceMul, Nat.reduceLeDiff, Nat.reduceEqDiff, List.length_cons, List.length_nil, decide_true, decide_false, Bool.true_and, Bool.and_true, Bool.false_and, Bool.and_false, false_and, and_false, Bool.false_eq_true, Bool.true_eq_false, reduceCtorEq, eq_self, if_true, if_false, true_and, and_true, not_true_eq_false, not_false_eq_true, if_pos, if_neg, z_ite_not, false_or, or_false, true_or, or_true, SWs, swk_0, swk_1, z]
      · simp (disch := first | omega | assumption | exact rfl) only [U_130_0, U_130_1, U_130_2, U_130_3, XX, QQ, WW, KK, QX, SHs, RRs, Nat.reduceAdd, Nat.reduceMul, Nat.reduceLeDiff, Nat.reduceEqDiff, List.length_cons, List.length_nil, decide_true, decide_false, Bool.true_and, Bool.and_true, Bool.false_and, Bool.and_false, false_and, and_false, Bool.false_eq_true, Bool.true_eq_false, reduceCtorEq, eq_self, if_true, if_false, true_and, and_true, not_true_eq_false, not_false_eq_true, if_pos, if_neg, z_ite_not, false_or, or_false, true_or, or_true, SWs, swk_0, swk_1, z1, z2]
    · refine callF_at (by omega) (by decide) (Nat.le_of_ble_eq_true rfl) (fun d _ => ?_)
      show Ev X d 215 0 [.ref 177, .int u, .int v, .retAddr 0, .retAddr 0, .retAddr 0, .retAddr 0] [] ( mk I J) _
      rcases hv with z | ⟨z1, z2⟩
      · have z' : decide (nI 2 ≤ v) = false := decide_eq_false (fa_of_lt z).2.1
        simp (disch := first | omega | assumption | exact rfl) only [U_215_0, U_215_1, XX, QQ, WW, KK, QX, SHs, RRs, Nat.reduceAdd, Nat.reduceMul, Nat.reduceLeDiff, Nat.reduceEqDiff, List.length_cons, List.length_nil, decide_true, decide_false, Bool.true_and, Bool.and_true, Bool.false_and, Bool.and_false, false_and, and_false, Bool.false_eq_true, Bool.true_eq_false, reduceCtorEq, eq_self, if_true, if_false, true_and, and_true, not_true_eq_false, not_false_eq_true, if_pos, if_neg, z_ite_not, false_or, or_false, true_or, or_true, SWs, swk_0, swk_1, r_isIn, z']
      · have z' : decide (v ≤ nI 6) = false := decide_eq_false (fa_of_lt z2).2.1
        simp (disch := first | omega | assumption | exact rfl) only [U_215_0, U_215_1, XX, QQ, WW, KK, QX, SHs, RRs, Nat.reduceAdd, Nat.reduceMul, Nat.reduceLeDiff, Nat.reduceEqDiff, List.length_cons, List.length_nil, decide_true, decide_false, Bool.true_and, Bool.and_true, Bool.false_and, Bool.and_false, false_and, and_false, Bool.false_eq_true, Bool.true_eq_false, reduceCtorEq, eq_self, if_true, if_false, true_and, and_true, not_true_eq_false, not_false_eq_true, if_pos, if_neg, z_ite_not, false_or, or_false, true_or, or_true, SWs, swk_0, swk_1, r_isIn, z']
