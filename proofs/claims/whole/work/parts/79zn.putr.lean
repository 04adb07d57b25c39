/-! ===== putting up: the reference ===== -/
theorem r_mendLoop {X : Nat × (Nat → Int32)} {d : Nat} {J : Nat → Nat → Int64} {Ib : Nat → Nat → Int32} {s F1 F2 al : Nat} {B1 : Nat → Int32} {mks : Nat → Nat} {v1 v3 v4 v5 v6 : Value} (hd : 6 ≤ d) (hs : s < 6) (hR : RSh (Ib 178) s F2) (hal : Ib 178 1 = nI al) (hal2 : al < 2) (hm : ∀ k, k < 24 → Ib 178 (10 + k) = nI (mks k)) (hm4 : ∀ k, k < 24 → mks k < 4) :
    ∀ (k : Nat) (I : Nat → Nat → Int32) (B : Nat → Int32), RM Ib F1 B1 I B → WB B (pop F2) → phi F1 B1 F2 al mks B ≤ k → ∃ I', Ev X d 225 9 [.ref 177, v1, .int (nI s), v3, v4, v5, v6] [] (mk I J) (none, mk I' J) ∧ RM Ib F1 B1 I' (mnd F1 B1 F2 al mks k B) := by
  have h24 := hR.1
  have stop : ∀ (k : Nat) (I : Nat → Nat → Int32) (B : Nat → Int32), RM Ib F1 B1 I B → WB B (pop F2) → ¬ fp F1 B1 F2 al mks B < 576 → mnd F1 B1 F2 al mks k B = B → ∃ I', Ev X d 225 9 [.ref 177, v1, .int (nI s), v3, v4, v5, v6] [] (mk I J) (none, mk I' J) ∧ RM Ib F1 B1 I' (mnd F1 B1 F2 al mks k B) := fun k I B r wb nf e => by
    obtain ⟨I', t1, t2⟩ := r_betters (X := X) (d := d) (J := J) (F2 := F2) hd hs hR hal hal2 hm hm4 r wb
    rw [if_neg nf] at t2
    rw [decide_eq_false nf] at t1
    refine ⟨I', ?_, by rw [e]; exact t2⟩
    simp (disch := first | omega | assumption | exact rfl) only [U_225_9, U_225_11, XX, QQ, WW, KK, QX, SHs, RRs, Nat.reduceAdd, Nat.reduceMul, Nat.reduceLeDiff, Nat.reduceEqDiff, List.length_cons, List.length_nil, decide_true, decide_false, Bool.true_and, Bool.and_true, Bool.false_and, Bool.and_false, false_and, and_false, Bool.false_eq_true, Bool.true_eq_false, reduceCtorEq, eq_self, if_true, if_false, true_and, and_true, not_true_eq_false, not_false_eq_true, if_pos, if_neg, z_ite_not, false_or, or_false, true_or, or_true, SWs, swk_0, swk_1, t1]
  intro k
  induction k with
  | zero =>
    intro I B r wb ph
    refine stop 0 I B r wb (fun z => ?_) rfl
    obtain ⟨a, b, c⟩ := fp_yes z
    have := phi_lt wb (swp_WB wb (by omega) b (by omega)) h24 c
    omega
  | succ k ih =>
    intro I B r wb ph
    by_cases z : fp F1 B1 F2 al mks B < 576
    · obtain ⟨a, b, c⟩ := fp_yes z
      have wb' := swp_WB wb (i := fp F1 B1 F2 al mks B / 24) (j := fp F1 B1 F2 al mks B % 24) (by omega) b (by omega)
      have pl := phi_lt wb wb' h24 c
      obtain ⟨I1, t1, t2⟩ := r_betters (X := X) (d := d) (J := J) (F2 := F2) hd hs hR hal hal2 hm hm4 r wb
      rw [if_pos z] at t2
      rw [decide_eq_true z] at t1
      obtain ⟨I2, y1, y2, _, _⟩ := r_reck (X := X) (d := d) (J := J) (F2 := F2) (by omega) hs hR hal hal2 hm hm4 t2 wb'
      obtain ⟨I', w1, w2⟩ := ih I2 _ y2 wb' (by omega)
      have e : mnd F1 B1 F2 al mks (k + 1) B = mnd F1 B1 F2 al mks k (swp B (fp F1 B1 F2 al mks B / 24) (fp F1 B1 F2 al mks B % 24)) := by rw [mnd, if_pos z]
      rw [e]
      refine ⟨I', ?_, w2⟩
      rw [U_225_9]
      simp (disch := first | omega | assumption | exact rfl) only [U_225_10, XX, QQ, WW, KK, QX, SHs, RRs, Nat.reduceAdd, Nat.reduceMul, Nat.reduceLeDiff, Nat.reduceEqDiff, List.length_cons, List.length_nil, decide_true, decide_false, Bool.true_and, Bool.and_true, Bool.false_and, Bool.and_false, false_and, and_false, Bool.false_eq_true, Bool.true_eq_false, reduceCtorEq, eq_self, if_true, if_false, true_and, and_true, not_true_eq_false, not_false_eq_true, if_pos, if_neg, z_ite_not, false_or, or_false, true_or, or_true, SWs, swk_0, swk_1, t1, y1]
      exact w1
    · exact stop (k + 1) I B r wb z (by rw [mnd, if_neg z])
theorem r_puts {X : Nat × (Nat → Int32)} {d : Nat} {I : Nat → Nat → Int32} {J : Nat → Nat → Int64} {a s F0 F1 w y al : Nat} {u : Int32} {B : Nat → Int32} {mks : Nat → Nat} (hd : 7 ≤ d) (ha : a < 6) (hs : s < 6) (hw : w < 7) (hy : y ≤ 9999) (hu : w = 1 → u = nI y) (hR : RWl (I 178) a F0 B) (hB : WB B (pop F0)) (hS : RSh (I 178) s F1) (h0 : 0 < pop F1) (hal : I 178 1 = nI al) (hal2 : al < 2) (hm : ∀ k, k < 24 → I 178 (10 + k) = nI (mks k)) (hm4 : ∀ k, k < 24 → mks k < 4) :
    ∃ I', callF X d 225 [.ref 177, .int (nI a), .int (nI s), .int (nI w), .int u] (mk I J) = some (none, mk I' J) ∧ (∀ k, k < 24 → I' 188 k = (ptF w y F0 B F1 al mks (I 178 0)).2 k) ∧ I' 178 = va_up (I 178) 0 (ptF w y F0 B F1 al mks (I 178 0)).1 ∧ (∀ a, (a < 177 ∨ a = 179 ∨ a = 182) → I' a = I a) ∧ (∀ k, k < 22 → I' 177 k = I 177 k) := by
  obtain ⟨d, rfl⟩ : ∃ d', d = d' + 1 := ⟨d - 1, by omega⟩
  have h24 := hR.1
  have h24' := hS.1
  have c1 : I 178 (70 + s) = nI (pop F1) := hS.2.1
  have ga := r_gathers (X := X) (d := d) (I := I) (J := J) (by omega) ha hR
  obtain ⟨n, en⟩ : ∃ n, n = fb_ct (isB B) (pop F0) := ⟨_, rfl⟩
  have n24 : n ≤ 24 := by have := fb_ct_le (isB B) (pop F0); omega
  rw [← en] at ga
  obtain ⟨Ig, eIg⟩ : ∃ Ig, Ig = Igat I F0 B := ⟨_, rfl⟩
  rw [← eIg] at ga
  have gf : ∀ a, a ≠ 189 → a ≠ 192 → Ig a = I a := fun a h1 h2 => by rw [eIg]; unfold Igat; rw [vu_ne h2, vu_ne h1]
  have g189 : ∀ m, m < n → Ig 189 m = B (kth (isB B) (pop F0) m) := fun m h => by rw [eIg]; unfold Igat; rw [vu_ne (by decide), vu_eq]; unfold gatB; rw [if_pos (by omega)]
  have g192 : ∀ m, m < n → Ig 192 m = nI (kth (isB B) (pop F0) m) := fun m h => by rw [eIg]; unfold Igat; rw [vu_eq]; unfold gatO; rw [if_pos (by omega)]
  have g178 : Ig 178 = I 178 := gf 178 (by decide) (by decide)
  obtain ⟨x, ex⟩ : ∃ x, x = I 178 0 := ⟨_, rfl⟩
  rw [← ex]
  obtain ⟨pt, ept⟩ : ∃ pt, pt = ptF w y F0 B F1 al mks x := ⟨_, rfl⟩
  rw [← ept]
  have base : ∀ k, k < 24 → fillI 24 (-1) (Ig 188) k = (fun _ => (-1 : Int32)) k := fun k hk => by unfold fillI; rw [if_pos hk]
  have way : ∃ I', Ev X d 225 (if w = 4 then 1 else 2) [.ref 177, .int (nI a), .int (nI s), .int (nI w), .int u, .int (nI n), .retAddr 0] [] (mk Ig J) (none, mk I' J) ∧ (∀ k, k < 24 → I' 188 k = pt.2 k) ∧ I' 178 = va_up (I 178) 0 pt.1 ∧ (∀ a, (a < 177 ∨ a = 179 ∨ a = 182) → I' a = I a) ∧ (∀ k, k < 22 → I' 177 k = I 177 k) := by
    by_cases w4 : w = 4
    · rw [if_pos w4]
      subst w4
      obtain ⟨I', p1, p2, p3⟩ := r_pairs (X := X) (d := d) (I := Ig) (J := J) (F0 := F0) (F1 := F1) (n := n) (s := s) (a := a) (B := B) (by omega) ha hs (by rw [g178]; exact hR) (by rw [g178]; exact hS) en g189 g192
      refine ⟨I', ?_, fun k hk => ?_, ?_, fun a h1 => ?_, fun k hk => ?_⟩
      · simp (disch := first | omega | assumption | exact rfl) only [U_225_1, XX, QQ, WW, KK, QX, SHs, RRs, Nat.reduceAdd, Nat.reduceMul, Nat.reduceLeDiff, Nat.reduceEqDiff, List.length_cons, List.length_nil, decide_true, decide_false, Bool.true_and, Bool.and_true, Bool.false_and, Bool.and_false, false_and, and_false, Bool.false_eq_true, Bool.true_eq_false, reduceCtorEq, eq_self, if_true, if_false, true_and, and_true, not_true_eq_false, not_false_eq_true, if_pos, if_neg, z_ite_not, false_or, or_false, true_or, or_true, SWs, swk_0, swk_1, p1]
      · rw [p2, ept]
        unfold ptF
        rw [if_pos rfl]
        exact (prs_cg h24' base (pop F0)).2 k hk
      · rw [p3 178 (by decide) (by decide) (by decide) (by decide), g178, ept]
        unfold ptF
        rw [if_pos rfl]
        exact (vu_same ex.symm).symm
      · rw [p3 a (by omega) (by omega) (by omega) (by omega), gf a (by omega) (by omega)]
      · rw [p3 177 (by decide) (by decide) (by decide) (by decide), gf 177 (by decide) (by decide)]
    · rw [if_neg w4]
      obtain ⟨mm, em⟩ : ∃ mm, mm = if n < pop F1 then n else pop F1 := ⟨_, rfl⟩
      have hmm : mm ≤ n ∧ mm ≤ pop F1 := by rw [em]; split <;> omega
      have p1 := r_simply (X := X) (d := d) (I := Ig) (J := J) (s := s) (F := F1) (cnt := n) (mm := mm) (y := y) (v := nI w) (u := u) (sn := snF F1) (by omega) hs (by rw [g178]; exact hS) em n24 hy (fun z => hu (nI_inj (by omega) (by omega) z)) (fun i hi => sn_lt hi) (fun f i hi => r_snake (X := X) (d := d - 1) (by omega) hs (by rw [vu_ne (by decide), g178]; exact hS) (by omega))
      have lw := ly_WB (F1 := F1) (y := y) (v := nI w) (mm := mm) hB (by rw [em, en])
      have p2 := lyF_cg (tg := tgF (nI w) y (pop F1) (snF F1)) (w := Ig 189) (w' := fun i => B (kth (isB B) (pop F0) i)) mm (fun i hi => g189 i (by omega)) base
      obtain ⟨f, ef⟩ : ∃ f, f = lyF (tgF (nI w) y (pop F1) (snF F1)) (Ig 189) (fillI 24 (-1) (Ig 188)) mm := ⟨_, rfl⟩
      obtain ⟨ly, ely⟩ : ∃ ly, ly = lyF (tgF (nI w) y (pop F1) (snF F1)) (fun i => B (kth (isB B) (pop F0) i)) (fun _ => -1) mm := ⟨_, rfl⟩
      rw [← ef] at p1
      rw [← ef, ← ely] at p2
      rw [← ely] at lw
      have fw : WB f (pop F1) := WB_cg h24' lw p2
      obtain ⟨Il, eIl⟩ : ∃ Il, Il = va_up Ig 188 f := ⟨_, rfl⟩
      rw [← eIl] at p1
      have lf : ∀ a, a ≠ 188 → a ≠ 189 → a ≠ 192 → Il a = I a := fun a h1 h2 h3 => by rw [eIl, vu_ne h1, gf a h2 h3]
      have l8 : Il 188 = f := by rw [eIl, vu_eq]
      have l78 : Il 178 = I 178 := lf _ (by decide) (by decide) (by decide)
      have ept2 : pt = if w = 5 then (x, mnd F0 B F1 al mks mx1 ly) else if w = 6 then mxF (pop F1 - 1) x ly else (x, ly) := by
        rw [ept]; unfold ptF; rw [if_neg w4, ← en, ← em, ← ely]
      by_cases w5 : w = 5
      · subst w5
        rw [if_pos rfl] at ept2
        have q1 := r_lays (X := X) (d := d) (I := Il) (J := J) (a := a) (F := F0) (N := 186) (B := B) (by omega) ha (by rw [l78]; exact hR) hB rfl (by decide)
        obtain ⟨Io, eIo⟩ : ∃ Io, Io = va_up (va_up Il 186 (gN F0 B (Il 186) (pop F0))) 177 (va_up (Il 177) 26 (nI (ins F0 B))) := ⟨_, rfl⟩
        have of : ∀ a, a ≠ 177 → a ≠ 186 → Io a = Il a := fun a h1 h2 => by rw [eIo, vu_ne h1, vu_ne h2]
        have o7 : ∀ k, k ≠ 26 → Io 177 k = Il 177 k := fun k hk => by rw [eIo, vu_eq, vu_ne hk]
        have rm : RM Io F0 B Io f := ⟨FR_refl _, by rw [eIo, vu_eq, vu_eq], fun b hb => by rw [eIo, vu_ne (by decide), vu_eq]; unfold gN; rw [if_pos hb, nrP_all], by rw [of _ (by decide) (by decide)]; exact l8⟩
        have o78 : Io 178 = I 178 := by rw [of _ (by decide) (by decide)]; exact l78
        obtain ⟨I', t1, t2, t3⟩ := r_mendLoop (X := X) (d := d) (J := J) (Ib := Io) (s := s) (F1 := F0) (F2 := F1) (al := al) (B1 := B) (mks := mks) (v1 := .int (nI a)) (v3 := .int (nI 5)) (v4 := .int u) (v5 := .int (nI n)) (v6 := .retAddr 0) (by omega) hs (by rw [o78]; exact hS) (by rw [o78]; exact hal) hal2 (fun k hk => by rw [o78]; exact hm k hk) hm4 mx1 Io f rm fw (phi_le fw h24')
        refine ⟨I', ?_, fun k hk => ?_, ?_, fun a h1 => ?_, fun k hk => ?_⟩
        · have w7 : va_up Il 186 (gN F0 B (Il 186) (pop F0)) 177 = Il 177 := vu_ne (by decide)
          rw [eIo] at t1
          simp (disch := first | omega | assumption | exact rfl) only [U_225_2, U_225_6, U_225_8, XX, QQ, WW, KK, QX, SHs, RRs, Nat.reduceAdd, Nat.reduceMul, Nat.reduceLeDiff, Nat.reduceEqDiff, List.length_cons, List.length_nil, decide_true, decide_false, Bool.true_and, Bool.and_true, Bool.false_and, Bool.and_false, false_and, and_false, Bool.false_eq_true, Bool.true_eq_false, reduceCtorEq, eq_self, if_true, if_false, true_and, and_true, not_true_eq_false, not_false_eq_true, if_pos, if_neg, z_ite_not, false_or, or_false, true_or, or_true, SWs, swk_0, swk_1, p1, q1, w7]
          exact t1
        · rw [t3.2.2, ept2]
          have e := mnd_cg (F1 := F0) (B1 := B) (al := al) (mks := mks) h24' mx1 _ _ p2 k hk
          dsimp only
          exact e
        · rw [t2.2.1, o78, ept2]; exact (vu_same ex.symm).symm
        · by_cases z : a < 177
          · rw [t2.1 a z, of a (by omega) (by omega), lf a (by omega) (by omega) (by omega)]
          · rcases (by omega : a = 179 ∨ a = 182) with q | q
            · subst q; rw [t2.2.2.1, of _ (by decide) (by decide), lf _ (by decide) (by decide) (by decide)]
            · subst q; rw [t2.2.2.2.1, of _ (by decide) (by decide), lf _ (by decide) (by decide) (by decide)]
        · rw [t2.2.2.2.2 k hk, o7 k (by omega), lf _ (by decide) (by decide) (by decide)]
      · rw [if_neg w5] at ept2
        by_cases w6 : w = 6
        · subst w6
          rw [if_pos rfl] at ept2
          have lp : ∀ i, i < pop F1 → ∀ (x : Int32) (f : Nat → Int32), Ev X d 225 4 [.ref 177, .int (nI a), .int (nI s), .int (nI 6), .int u, .int (nI n), .int (nI i)] [] (mk (va_up (va_up Il 188 f) 178 (va_up (Il 178) 0 x)) J) (none, mk (va_up (va_up Il 188 (mxF i x f).2) 178 (va_up (Il 178) 0 (mxF i x f).1)) J) := by
            intro i
            induction i with
            | zero =>
              intro _ x f
              rw [U_225_4]
              simp (disch := first | omega | assumption | exact rfl) only [U_225_6, U_225_7, XX, QQ, WW, KK, QX, SHs, RRs, Nat.reduceAdd, Nat.reduceMul, Nat.reduceLeDiff, Nat.reduceEqDiff, List.length_cons, List.length_nil, decide_true, decide_false, Bool.true_and, Bool.and_true, Bool.false_and, Bool.and_false, false_and, and_false, Bool.false_eq_true, Bool.true_eq_false, reduceCtorEq, eq_self, if_true, if_false, true_and, and_true, not_true_eq_false, not_false_eq_true, if_pos, if_neg, z_ite_not, false_or, or_false, true_or, or_true, SWs, swk_0, swk_1]
              rfl
            | succ i ih =>
              intro hi x f
              have IH := ih (by omega) (dS x) (swp f (i + 1) (dV x (i + 2)))
              have i24 : i + 1 < 24 := by omega
              obtain ⟨Ic, eIc⟩ : ∃ Ic, Ic = va_up (va_up Il 188 f) 178 (va_up (Il 178) 0 x) := ⟨_, rfl⟩
              have c10 : Ic 178 = va_up (Il 178) 0 x := by rw [eIc, vu_eq]
              have dr := r_draw (X := X) (d := d) (I := Ic) (J := J) (m := i + 2) (by omega) (by omega) (by omega)
              rw [show nI 1664525 * Ic 178 0 + nI 1013904223 = dS x by rw [c10, vu_eq]; rfl] at dr
              rw [show (dS x).toUInt32.toNat / 256 % (i + 2) = dV x (i + 2) from rfl] at dr
              have vl := dV_lt (x := x) (m := i + 2) (by omega)
              obtain ⟨v, ev⟩ : ∃ v, v = dV x (i + 2) := ⟨_, rfl⟩
              rw [← ev] at dr vl IH
              have eIn : va_up Ic 178 (va_up (Ic 178) 0 (dS x)) = va_up (va_up Il 188 f) 178 (va_up (Il 178) 0 (dS x)) := by
                rw [c10, vu_vu, eIc, vu_vu]
              rw [eIn] at dr
              obtain ⟨Id, eId⟩ : ∃ Id, Id = va_up (va_up Il 188 f) 178 (va_up (Il 178) 0 (dS x)) := ⟨_, rfl⟩
              rw [← eId] at dr
              have d8 : Id 188 = f := by rw [eId, vu_ne (by decide), vu_eq]
              have ex := r_exchanges (X := X) (d := d) (I := Id) (J := J) (i := i + 1) (j := v) (by omega) i24 (by omega)
              have eE : va_up Id 188 (swp (Id 188) (i + 1) v) = va_up (va_up Il 188 (swp f (i + 1) v)) 178 (va_up (Il 178) 0 (dS x)) := by
                rw [d8, eId]
                funext q
                by_cases q1 : q = 188
                · subst q1; rw [vu_eq, vu_ne (by decide), vu_eq]
                · rw [vu_ne q1]
                  by_cases q2 : q = 178
                  · subst q2; rw [vu_eq, vu_eq]
                  · rw [vu_ne q2, vu_ne q2, vu_ne q1, vu_ne q1]
              rw [eE] at ex
              have emx : mxF (i + 1) x f = mxF i (dS x) (swp f (i + 1) v) := by rw [ev]; rfl
              rw [emx, ← eIc]
              rw [U_225_4]
              simp (disch := first | omega | assumption | exact rfl) only [U_225_5, XX, QQ, WW, KK, QX, SHs, RRs, Nat.reduceAdd, Nat.reduceMul, Nat.reduceLeDiff, Nat.reduceEqDiff, List.length_cons, List.length_nil, decide_true, decide_false, Bool.true_and, Bool.and_true, Bool.false_and, Bool.and_false, false_and, and_false, Bool.false_eq_true, Bool.true_eq_false, reduceCtorEq, eq_self, if_true, if_false, true_and, and_true, not_true_eq_false, not_false_eq_true, if_pos, if_neg, z_ite_not, false_or, or_false, true_or, or_true, SWs, swk_0, swk_1, dr, ex]
              exact IH
          have st := lp (pop F1 - 1) (by omega) x f
          rw [show va_up (va_up Il 188 f) 178 (va_up (Il 178) 0 x) = Il by rw [vu_same l8, l78, vu_same ex.symm]; exact vu_same l78] at st
          obtain ⟨m1, m2⟩ := mxF_cg (pop F1 - 1) x f ly (by omega) p2
          refine ⟨va_up (va_up Il 188 (mxF (pop F1 - 1) x f).2) 178 (va_up (Il 178) 0 (mxF (pop F1 - 1) x f).1), ?_, fun k hk => by rw [vu_ne (by decide : (188 : Nat) ≠ 178), vu_eq, ept2]; exact m2 k hk, by rw [vu_eq, ept2, l78, m1], fun a h1 => by rw [vu_ne (by omega), vu_ne (by omega), lf a (by omega) (by omega) (by omega)], fun k hk => by rw [vu_ne (by decide : (177 : Nat) ≠ 178), vu_ne (by decide : (177 : Nat) ≠ 188), lf _ (by decide) (by decide) (by decide)]⟩
          · have c2 : Il 178 (70 + s) = nI (pop F1) := by rw [l78]; exact c1
            simp (disch := first | omega | assumption | exact rfl) only [U_225_2, U_225_3, XX, QQ, WW, KK, QX, SHs, RRs, Nat.reduceAdd, Nat.reduceMul, Nat.reduceLeDiff, Nat.reduceEqDiff, List.length_cons, List.length_nil, decide_true, decide_false, Bool.true_and, Bool.and_true, Bool.false_and, Bool.and_false, false_and, and_false, Bool.false_eq_true, Bool.true_eq_false, reduceCtorEq, eq_self, if_true, if_false, true_and, and_true, not_true_eq_false, not_false_eq_true, if_pos, if_neg, z_ite_not, false_or, or_false, true_or, or_true, SWs, swk_0, swk_1, p1, c2]
            exact st
        · rw [if_neg w6] at ept2
          refine ⟨Il, ?_, fun k hk => ?_, ?_, fun a h1 => lf a (by omega) (by omega) (by omega), fun k hk => by rw [lf _ (by decide) (by decide) (by decide)]⟩
          · simp (disch := first | omega | assumption | exact rfl) only [U_225_2, U_225_6, U_225_7, XX, QQ, WW, KK, QX, SHs, RRs, Nat.reduceAdd, Nat.reduceMul, Nat.reduceLeDiff, Nat.reduceEqDiff, List.length_cons, List.length_nil, decide_true, decide_false, Bool.true_and, Bool.and_true, Bool.false_and, Bool.and_false, false_and, and_false, Bool.false_eq_true, Bool.true_eq_false, reduceCtorEq, eq_self, if_true, if_false, true_and, and_true, not_true_eq_false, not_false_eq_true, if_pos, if_neg, z_ite_not, false_or, or_false, true_or, or_true, SWs, swk_0, swk_1, p1, w5, w6]
          · rw [l8, ept2]; exact p2 k hk
          · rw [l78, ept2]; exact (vu_same ex.symm).symm
  obtain ⟨I', t1, t2, t3, t4, t5⟩ := way
  refine ⟨I', ?_, t2, t3, t4, t5⟩
  refine callF_at (by omega) (by decide) (Nat.le_of_ble_eq_true rfl) (fun d' hd' => ?_)
  obtain rfl : d = d' := by omega
  show Ev X d 225 0 [.ref 177, .int (nI a), .int (nI s), .int (nI w), .int u, .retAddr 0, .retAddr 0] [] (mk I J) _
  by_cases w4 : w = 4
  · subst w4
    rw [if_pos rfl] at t1
    simp (disch := first | omega | assumption | exact rfl) only [U_225_0, XX, QQ, WW, KK, QX, SHs, RRs, Nat.reduceAdd, Nat.reduceMul, Nat.reduceLeDiff, Nat.reduceEqDiff, List.length_cons, List.length_nil, decide_true, decide_false, Bool.true_and, Bool.and_true, Bool.false_and, Bool.and_false, false_and, and_false, Bool.false_eq_true, Bool.true_eq_false, reduceCtorEq, eq_self, if_true, if_false, true_and, and_true, not_true_eq_false, not_false_eq_true, if_pos, if_neg, z_ite_not, false_or, or_false, true_or, or_true, SWs, swk_0, swk_1, ga]
    exact t1
  · rw [if_neg w4] at t1
    simp (disch := first | omega | assumption | exact rfl) only [U_225_0, XX, QQ, WW, KK, QX, SHs, RRs, Nat.reduceAdd, Nat.reduceMul, Nat.reduceLeDiff, Nat.reduceEqDiff, List.length_cons, List.length_nil, decide_true, decide_false, Bool.true_and, Bool.and_true, Bool.false_and, Bool.and_false, false_and, and_false, Bool.false_eq_true, Bool.true_eq_false, reduceCtorEq, eq_self, if_true, if_false, true_and, and_true, not_true_eq_false, not_false_eq_true, if_pos, if_neg, z_ite_not, false_or, or_false, true_or, or_true, SWs, swk_0, swk_1, ga, w4]
    exact t1
