/-! ===== pairs laid: the reference's loops ===== -/
def plR (F0 : Nat) (B : Nat → Int32) (ld : Nat → Bool) (g : Nat → Int32) : Nat → Int32 := fun m => if m < fb_ct (isB B) (pop F0) then bI (ld (kth (isB B) (pop F0) m)) else g m
theorem hPr_end {F0 F1 i : Nat} {B : Nat → Int32} {s : Nat × (Nat → Int32)} (h : s.1 = pop F1) : hPr F0 B F1 i s = s := by
  obtain ⟨ge, le⟩ := nxE_ge (N := pop F1) (s := s) (by omega)
  unfold hPr rstE
  split
  · rfl
  · have e : nxE (pop F1) s = pop F1 := by omega
    rw [e, if_neg (by omega), ← h]
theorem r_pairs3 {X : Nat × (Nat → Int32)} {d : Nat} {I : Nat → Nat → Int32} {J : Nat → Nat → Int64} {F0 F1 n s a : Nat} {B g3 base : Nat → Int32} (h24 : pop F0 ≤ 24) (h24' : pop F1 ≤ 24) (hn : n = fb_ct (isB B) (pop F0)) (h189 : ∀ m, m < n → I 189 m = B (kth (isB B) (pop F0) m)) (h193 : I 193 = plR F0 B (ldK F0 B (KP F0 (isB B) F1)) g3) :
    Ev X d 221 15 [.ref 177, .int (nI a), .int (nI s), .int (nI n), .int (nI (pop F1)), .int (nI 0), .int (nI 0)] [] (mk (va_up I 188 (prK F0 B F1 base (KP F0 (isB B) F1))) J) (none, mk (va_up I 188 (prs F0 B F1 base (pop F0)).2) J) := by
  have n24 : n ≤ 24 := by have := fb_ct_le (isB B) (pop F0); omega
  obtain ⟨pg, epg⟩ : ∃ pg : Nat → Nat × (Nat → Int32), pg = fun m => fB (fun j s => hPr F0 B F1 (kth (isB B) (pop F0) j) s) m (0, prK F0 B F1 base (KP F0 (isB B) F1)) := ⟨_, rfl⟩
  have pgN : prs F0 B F1 base (pop F0) = pg n := by rw [epg, hn]; exact (fB_kth (pop F0) (Nat.le_refl _) _).symm
  have pgs : ∀ m, pg (m + 1) = hPr F0 B F1 (kth (isB B) (pop F0) m) (pg m) := fun m => by rw [epg]; rfl
  have pg0 : pg 0 = (0, prK F0 B F1 base (KP F0 (isB B) F1)) := by rw [epg]; rfl
  have le : ∀ i, (pg i).1 ≤ pop F1 := fun i => by
    induction i with
    | zero => rw [pg0]; exact Nat.zero_le _
    | succ i ih => rw [pgs]; exact hPr_le ih
  have stay : ∀ i k, (pg i).1 = pop F1 → pg (i + k) = pg i := fun i k h => by
    induction k with
    | zero => rfl
    | succ k ih => rw [← Nat.add_assoc, pgs, hPr_end (by rw [ih]; exact h), ih]
  rw [pgN]
  refine lpI (n := n) (P := fun i => Ev X d 221 15 [.ref 177, .int (nI a), .int (nI s), .int (nI n), .int (nI (pop F1)), .int (nI (pg i).1), .int (nI i)] [] (mk (va_up I 188 (pg i).2) J) (none, mk (va_up I 188 (pg n).2) J)) ?_ ?_ (fun Q => by rw [pg0] at Q; exact Q)
  · rw [U_221_15]
    simp (disch := first | omega | assumption | exact rfl) only [U_221_25, XX, QQ, WW, KK, QX, SHs, RRs, Nat.reduceAdd, Nat.reduceMul, Nat.reduceLeDiff, Nat.reduceEqDiff, List.length_cons, List.length_nil, decide_true, decide_false, Bool.true_and, Bool.and_true, Bool.false_and, Bool.and_false, false_and, and_false, Bool.false_eq_true, Bool.true_eq_false, reduceCtorEq, eq_self, if_true, if_false, true_and, and_true, not_true_eq_false, not_false_eq_true, if_pos, if_neg, z_ite_not, false_or, or_false, true_or, or_true, SWs, swk_0, swk_1]
  · intro i hi ih
    have i24 : i < 24 := by omega
    have li := le i
    have ps := pgs i
    have st := stay (i + 1) (n - (i + 1))
    rw [show i + 1 + (n - (i + 1)) = n by omega] at st
    obtain ⟨s', es⟩ : ∃ s, s = pg i := ⟨_, rfl⟩
    rw [← es] at ps li ⊢
    have e9 := h189 i hi
    have e3 : I 193 i = bI (ldK F0 B (KP F0 (isB B) F1) (kth (isB B) (pop F0) i)) := by rw [h193]; unfold plR; rw [if_pos (by omega)]
    rw [U_221_15]
    cases l : ldK F0 B (KP F0 (isB B) F1) (kth (isB B) (pop F0) i) with
    | true =>
      rw [l] at e3
      unfold hPr at ps
      rw [if_pos l] at ps
      rw [ps] at ih
      have e3 : I 193 i = nI 1 := e3
      simp (disch := first | omega | assumption | exact rfl) only [U_221_16, U_221_17, U_221_24, XX, QQ, WW, KK, QX, SHs, RRs, Nat.reduceAdd, Nat.reduceMul, Nat.reduceLeDiff, Nat.reduceEqDiff, List.length_cons, List.length_nil, decide_true, decide_false, Bool.true_and, Bool.and_true, Bool.false_and, Bool.and_false, false_and, and_false, Bool.false_eq_true, Bool.true_eq_false, reduceCtorEq, eq_self, if_true, if_false, true_and, and_true, not_true_eq_false, not_false_eq_true, if_pos, if_neg, z_ite_not, false_or, or_false, true_or, or_true, SWs, swk_0, swk_1, e3]
      exact ih
    | false =>
      rw [l] at e3
      unfold hPr at ps
      rw [if_neg (by rw [l]; decide)] at ps
      have e3 : I 193 i = nI 0 := e3
      obtain ⟨ge, le'⟩ := nxE_ge li
      obtain ⟨x, ex⟩ : ∃ x, x = nxE (pop F1) s' := ⟨_, rfl⟩
      unfold rstE at ps
      have no := fun k h1 h2 => nxE_no (N := pop F1) (k := k) (s := s') h1 h2
      have yes := nxE_yes (N := pop F1) (s := s')
      rw [← ex] at ps ge le' no yes
      rw [ps] at ih st
      obtain ⟨c, f⟩ := s'
      dsimp only at *
      have lp : Ev X d 221 18 [.ref 177, .int (nI a), .int (nI s), .int (nI n), .int (nI (pop F1)), .int (nI c), .int (nI i)] [] (mk (va_up I 188 f) J) (none, mk (va_up I 188 (pg n).2) J) := by
        refine lpd (n := x) (P := fun k => c ≤ k → Ev X d 221 18 [.ref 177, .int (nI a), .int (nI s), .int (nI n), .int (nI (pop F1)), .int (nI k), .int (nI i)] [] (mk (va_up I 188 f) J) (none, mk (va_up I 188 (pg n).2) J)) ?_ ?_ c ge (Nat.le_refl _)
        · intro _
          rw [U_221_18]
          rcases Nat.lt_or_ge x (pop F1) with q | q
          · rw [if_pos q] at ih
            have x24 : x < 24 := by omega
            have xn : ¬ x = pop F1 := by omega
            have y := yes q
            simp (disch := first | omega | assumption | exact rfl) only [U_221_19, U_221_21, U_221_23, U_221_24, XX, QQ, WW, KK, QX, SHs, RRs, Nat.reduceAdd, Nat.reduceMul, Nat.reduceLeDiff, Nat.reduceEqDiff, List.length_cons, List.length_nil, decide_true, decide_false, Bool.true_and, Bool.and_true, Bool.false_and, Bool.and_false, false_and, and_false, Bool.false_eq_true, Bool.true_eq_false, reduceCtorEq, eq_self, if_true, if_false, true_and, and_true, not_true_eq_false, not_false_eq_true, if_pos, if_neg, z_ite_not, false_or, or_false, true_or, or_true, SWs, swk_0, swk_1, y, e9, xn]
            exact ih
          · have q' : x = pop F1 := by omega
            rw [if_neg (by omega)] at st
            have st := st q'
            rw [st]
            rw [q']
            simp (disch := first | omega | assumption | exact rfl) only [U_221_21, U_221_22, XX, QQ, WW, KK, QX, SHs, RRs, Nat.reduceAdd, Nat.reduceMul, Nat.reduceLeDiff, Nat.reduceEqDiff, List.length_cons, List.length_nil, decide_true, decide_false, Bool.true_and, Bool.and_true, Bool.false_and, Bool.and_false, false_and, and_false, Bool.false_eq_true, Bool.true_eq_false, reduceCtorEq, eq_self, if_true, if_false, true_and, and_true, not_true_eq_false, not_false_eq_true, if_pos, if_neg, z_ite_not, false_or, or_false, true_or, or_true, SWs, swk_0, swk_1]
        · intro k hk IH ck
          have IH := IH (by omega)
          have k24 : k < 24 := by omega
          have kN : k < pop F1 := by omega
          have y := no k ck hk
          rw [U_221_18]
          simp (disch := first | omega | assumption | exact rfl) only [U_221_19, U_221_20, XX, QQ, WW, KK, QX, SHs, RRs, Nat.reduceAdd, Nat.reduceMul, Nat.reduceLeDiff, Nat.reduceEqDiff, List.length_cons, List.length_nil, decide_true, decide_false, Bool.true_and, Bool.and_true, Bool.false_and, Bool.and_false, false_and, and_false, Bool.false_eq_true, Bool.true_eq_false, reduceCtorEq, eq_self, if_true, if_false, true_and, and_true, not_true_eq_false, not_false_eq_true, if_pos, if_neg, z_ite_not, false_or, or_false, true_or, or_true, SWs, swk_0, swk_1, y]
          exact IH
      simp (disch := first | omega | assumption | exact rfl) only [U_221_16, XX, QQ, WW, KK, QX, SHs, RRs, Nat.reduceAdd, Nat.reduceMul, Nat.reduceLeDiff, Nat.reduceEqDiff, List.length_cons, List.length_nil, decide_true, decide_false, Bool.true_and, Bool.and_true, Bool.false_and, Bool.and_false, false_and, and_false, Bool.false_eq_true, Bool.true_eq_false, reduceCtorEq, eq_self, if_true, if_false, true_and, and_true, not_true_eq_false, not_false_eq_true, if_pos, if_neg, z_ite_not, false_or, or_false, true_or, or_true, SWs, swk_0, swk_1, e3]
      exact lp
theorem r_pairs2 {X : Nat × (Nat → Int32)} {d : Nat} {I : Nat → Nat → Int32} {J : Nat → Nat → Int64} {F0 F1 n s a : Nat} {B g0 g1 g3 base : Nat → Int32} {m0 : Nat → Bool} (h24 : pop F0 ≤ 24) (h24' : pop F1 ≤ 24) (hm0 : m0 = isB B) (hn : n = fb_ct m0 (pop F0)) (h189 : ∀ m, m < n → I 189 m = B (kth m0 (pop F0) m)) (h190 : I 190 = rwM F0 m0 (cw F0 m0 (pop F0)) g0) (h191 : I 191 = rwM F1 (fun _ => true) (cw F1 (fun _ => true) (pop F1)) g1) :
    Ev X d 221 4 [.ref 177, .int (nI a), .int (nI s), .int (nI n), .int (nI (pop F1)), .int (nI 0), .int (nI 0)] [] (mk (va_up (va_up I 188 base) 193 (plR F0 B (fun _ => false) g3)) J) (none, mk (va_up (va_up I 188 (prs F0 B F1 base (pop F0)).2) 193 (plR F0 B (ldK F0 B (KP F0 m0 F1)) g3)) J) := by
  have n24 : n ≤ 24 := by have := fb_ct_le m0 (pop F0); omega
  obtain ⟨N1, eN1⟩ : ∃ N1, N1 = pop F1 := ⟨_, rfl⟩
  obtain ⟨P1, eP1⟩ : ∃ P1, P1 = lsr F1 (fun _ => true) := ⟨_, rfl⟩
  obtain ⟨Q, eQ⟩ : ∃ Q : Nat → Bool, Q = fun m => lsr F0 m0 (kth m0 (pop F0) m) := ⟨_, rfl⟩
  have ctQ : ∀ i, i ≤ pop F0 → fb_ct Q (fb_ct m0 i) = fb_ct (lsr F0 m0) i := fun i hi => by
    rw [eQ, ← ct_kth (p := m0) (Q := lsr F0 m0) i hi]
    refine fb_ct_cong (fun k hk => ?_)
    cases l : lsr F0 m0 k with
    | true => rw [(lsr_mem l).2]; rfl
    | false => rw [Bool.and_false]
  have ctn : fb_ct Q n = fb_ct (lsr F0 m0) (pop F0) := by rw [hn]; exact ctQ _ (Nat.le_refl _)
  obtain ⟨kp1, kp2, kp3⟩ := KP_le (F0 := F0) (F1 := F1) (m0 := m0)
  rw [← ctn] at kp1 kp3
  rw [← eP1, ← eN1] at kp2 kp3
  obtain ⟨K, eK⟩ : ∃ K, K = KP F0 m0 F1 := ⟨_, rfl⟩
  obtain ⟨Mk, eMk⟩ : ∃ Mk : Nat → Nat → Nat → Int32, Mk = fun k => va_up (va_up I 188 (prK F0 B F1 base k)) 193 (plR F0 B (ldK F0 B k) g3) := ⟨_, rfl⟩
  have tail : Ev X d 221 15 [.ref 177, .int (nI a), .int (nI s), .int (nI n), .int (nI (pop F1)), .int (nI 0), .int (nI 0)] [] (mk (Mk K) J) (none, mk (va_up (va_up I 188 (prs F0 B F1 base (pop F0)).2) 193 (plR F0 B (ldK F0 B (KP F0 m0 F1)) g3)) J) := by
    have t := r_pairs3 (X := X) (d := d) (I := va_up I 193 (plR F0 B (ldK F0 B K) g3)) (J := J) (F0 := F0) (F1 := F1) (n := n) (s := s) (a := a) (B := B) (g3 := g3) (base := base) h24 h24' (by rw [← hm0]; exact hn) (fun m hm => by rw [vu_ne (by decide), ← hm0]; exact h189 m hm) (by rw [vu_eq, eK, hm0])
    have sw : ∀ x y, va_up (va_up I 193 y) 188 x = va_up (va_up I 188 x) 193 y := fun x y => by
      funext q
      by_cases q1 : q = 188
      · subst q1; rw [vu_eq, vu_ne (by decide), vu_eq]
      · rw [vu_ne q1]
        by_cases q2 : q = 193
        · subst q2; rw [vu_eq, vu_eq]
        · rw [vu_ne q2, vu_ne q2, vu_ne q1]
    rw [sw, sw, ← hm0, ← eK] at t
    rw [eMk, ← eK]
    exact t
  rw [← eK] at kp1 kp2 kp3
  have f190 : ∀ m, m < n → I 190 m = ixM m0 (cw F0 m0 (pop F0) (kth m0 (pop F0) m)) := fun m hm => by rw [h190]; unfold rwM; rw [if_pos (by omega)]
  have tt : ∀ k, fb_ct (fun _ => true) k = k := fun k => fb_ct_all.mpr (fun _ _ => rfl)
  have f191 : ∀ m, m < N1 → I 191 m = ixM (fun _ => true) (cw F1 (fun _ => true) (pop F1) m) := fun m hm => by
    rw [h191]; unfold rwM; rw [if_pos (by rw [tt]; omega), kth_tt (by omega)]
  obtain ⟨R, eR⟩ : ∃ R, R = va_up (va_up I 188 (prs F0 B F1 base (pop F0)).2) 193 (plR F0 B (ldK F0 B (KP F0 m0 F1)) g3) := ⟨_, rfl⟩
  rw [← eR] at tail ⊢
  have e0 : va_up (va_up I 188 base) 193 (plR F0 B (fun _ => false) g3) = Mk 0 := by rw [eMk]; rfl
  rw [e0]
  have g9 : ∀ k, Mk k 189 = I 189 := fun k => by rw [eMk]; dsimp only; rw [vu_ne (by decide), vu_ne (by decide)]
  have g90 : ∀ k, Mk k 190 = I 190 := fun k => by rw [eMk]; dsimp only; rw [vu_ne (by decide), vu_ne (by decide)]
  have g91 : ∀ k, Mk k 191 = I 191 := fun k => by rw [eMk]; dsimp only; rw [vu_ne (by decide), vu_ne (by decide)]
  have g88 : ∀ k, Mk k 188 = prK F0 B F1 base k := fun k => by rw [eMk]; dsimp only; rw [vu_ne (by decide), vu_eq]
  have g93 : ∀ k, Mk k 193 = plR F0 B (ldK F0 B k) g3 := fun k => by rw [eMk]; dsimp only; rw [vu_eq]
  have main : ∀ i, i ≤ n → ∀ c, c ≤ N1 → fb_ct P1 c = fb_ct Q i → Ev X d 221 4 [.ref 177, .int (nI a), .int (nI s), .int (nI n), .int (nI (pop F1)), .int (nI c), .int (nI i)] [] (mk (Mk (fb_ct Q i)) J) (none, mk R J) := by
    refine lpd (n := n) (P := fun i => ∀ c, c ≤ N1 → fb_ct P1 c = fb_ct Q i → Ev X d 221 4 [.ref 177, .int (nI a), .int (nI s), .int (nI n), .int (nI (pop F1)), .int (nI c), .int (nI i)] [] (mk (Mk (fb_ct Q i)) J) (none, mk R J)) ?_ ?_
    · intro c hc e
      have m1 := fb_ct_mono P1 hc
      have eK' : fb_ct Q n = K := by omega
      rw [eK', U_221_4]
      simp (disch := first | omega | assumption | exact rfl) only [U_221_14, XX, QQ, WW, KK, QX, SHs, RRs, Nat.reduceAdd, Nat.reduceMul, Nat.reduceLeDiff, Nat.reduceEqDiff, List.length_cons, List.length_nil, decide_true, decide_false, Bool.true_and, Bool.and_true, Bool.false_and, Bool.and_false, false_and, and_false, Bool.false_eq_true, Bool.true_eq_false, reduceCtorEq, eq_self, if_true, if_false, true_and, and_true, not_true_eq_false, not_false_eq_true, if_pos, if_neg, z_ite_not, false_or, or_false, true_or, or_true, SWs, swk_0, swk_1]
      exact tail
    · intro i hi ih c hc e
      have i24 : i < 24 := by omega
      have c24 : c ≤ 24 := by omega
      have r90 : Mk (fb_ct Q i) 190 i = ixM m0 (cw F0 m0 (pop F0) (kth m0 (pop F0) i)) := by rw [g90]; exact f190 i hi
      have n0 : i < fb_ct m0 (pop F0) := by omega
      rw [fb_ct_succ] at ih
      rw [U_221_4]
      rcases ixM_lt h24 n0 with ⟨z1, j, j1, j2, j3, j4⟩ | ⟨z1, z2⟩
      · have qi : Q i = true := by rw [eQ]; exact z1
        rw [qi, if_pos rfl] at ih
        rw [j3] at r90
        have j24 : j < 24 := by omega
        have tK : fb_ct Q i < fb_ct (lsr F0 m0) (pop F0) := by
          have := kth_lt hi qi
          omega
        obtain ⟨t, et⟩ : ∃ t, t = fb_ct Q i := ⟨_, rfl⟩
        rw [← et] at e ih r90 tK ⊢
        have inner : ∀ c', c ≤ c' → c' ≤ N1 → fb_ct P1 c' = t → Ev X d 221 7 [.ref 177, .int (nI a), .int (nI s), .int (nI n), .int (nI (pop F1)), .int (nI c'), .int (nI i)] [] (mk (Mk t) J) (none, mk R J) := by
          intro c' hcc hc' 
          refine lpd (n := N1) (P := fun c' => fb_ct P1 c' = t → Ev X d 221 7 [.ref 177, .int (nI a), .int (nI s), .int (nI n), .int (nI (pop F1)), .int (nI c'), .int (nI i)] [] (mk (Mk t) J) (none, mk R J)) ?_ ?_ c' hc'
          · intro ect
            have eK' : t = K := by omega
            rw [eN1, U_221_7, eK']
            simp (disch := first | omega | assumption | exact rfl) only [U_221_10, U_221_11, U_221_14, XX, QQ, WW, KK, QX, SHs, RRs, Nat.reduceAdd, Nat.reduceMul, Nat.reduceLeDiff, Nat.reduceEqDiff, List.length_cons, List.length_nil, decide_true, decide_false, Bool.true_and, Bool.and_true, Bool.false_and, Bool.and_false, false_and, and_false, Bool.false_eq_true, Bool.true_eq_false, reduceCtorEq, eq_self, if_true, if_false, true_and, and_true, not_true_eq_false, not_false_eq_true, if_pos, if_neg, z_ite_not, false_or, or_false, true_or, or_true, SWs, swk_0, swk_1]
            exact tail
          · intro x hx IH ect
            have x24 : x < 24 := by omega
            have xF : x < pop F1 := by omega
            have r91 : Mk t 191 x = ixM (fun _ => true) (cw F1 (fun _ => true) (pop F1) x) := by rw [g91]; exact f191 x hx
            have xx := ixM_lt (F := F1) (mem := fun _ => true) (m := x) h24' (by rw [tt]; exact xF)
            rw [kth_tt xF] at xx
            rw [fb_ct_succ] at IH
            rw [U_221_7]
            rcases xx with ⟨w1, y, y1, y2, y3, y4⟩ | ⟨w1, w2⟩
            · have pi : P1 x = true := by rw [eP1]; exact w1
              rw [tt] at y2
              rw [kth_tt y2] at y4
              rw [y3] at r91
              have y24 : y < 24 := by omega
              have kk : kth P1 N1 t = x := by rw [← ect]; exact kth_ct hx pi
              have l1 : l0F F1 (fun _ => true) t = x := by unfold l0F; rw [← eP1, ← eN1]; exact kk
              have g1' : g0F F1 (fun _ => true) t = y := by unfold g0F; rw [l1]; omega
              have ki := kth_spec n0
              have l0 : l0F F0 m0 t = kth m0 (pop F0) i := by
                unfold l0F
                have : fb_ct (lsr F0 m0) (kth m0 (pop F0) i) = t := by rw [← ctQ _ (by omega), ki.2.2, et]
                rw [← this]; exact kth_ct ki.1 z1
              have g0' : g0F F0 m0 t = kth m0 (pop F0) j := by unfold g0F; rw [l0]; omega
              have nx := ih (x + 1) (by omega) (by rw [fb_ct_succ, pi, if_pos rfl, ect])
              have b1 : I 189 i = B (kth m0 (pop F0) i) := h189 i hi
              have b2 : I 189 j = B (kth m0 (pop F0) j) := h189 j (by omega)
              have b3 : Mk t 189 i = B (kth m0 (pop F0) i) := by rw [g9]; exact b1
              have b4 : Mk t 189 j = B (kth m0 (pop F0) j) := by rw [g9]; exact b2
              have eM : Mk (t + 1) = va_up (va_up (Mk t) 188 (va_up (va_up (Mk t 188) x (B (kth m0 (pop F0) i))) y (B (kth m0 (pop F0) j)))) 193 (va_up (va_up (Mk t 193) i (nI 1)) j (nI 1)) := by
                rw [g88, g93]
                have p1 : prK F0 B F1 base (t + 1) = va_up (va_up (prK F0 B F1 base t) x (B (kth m0 (pop F0) i))) y (B (kth m0 (pop F0) j)) := by
                  have : prK F0 B F1 base (t + 1) = va_up (va_up (prK F0 B F1 base t) (l0F F1 (fun _ => true) t) (B (l0F F0 (isB B) t))) (g0F F1 (fun _ => true) t) (B (g0F F0 (isB B) t)) := rfl
                  rw [this, ← hm0, l1, g1', l0, g0']
                have p2 : plR F0 B (ldK F0 B (t + 1)) g3 = va_up (va_up (plR F0 B (ldK F0 B t) g3) i (nI 1)) j (nI 1) := by
                  have : ldK F0 B (t + 1) = va_up (va_up (ldK F0 B t) (l0F F0 (isB B) t) true) (g0F F0 (isB B) t) true := rfl
                  rw [this, ← hm0, l0, g0']
                  have kj := kth_spec j2
                  funext q
                  by_cases q1 : q = j
                  · subst q1; rw [vu_eq]; unfold plR; rw [← hm0, if_pos j2, vu_eq]; rfl
                  · rw [vu_ne q1]
                    by_cases q2 : q = i
                    · subst q2
                      rw [vu_eq]; unfold plR; rw [← hm0, if_pos n0, vu_ne (fun e => by rw [e, kj.2.2] at ki; omega), vu_eq]; rfl
                    · rw [vu_ne q2]
                      unfold plR
                      rw [← hm0]
                      by_cases q3 : q < fb_ct m0 (pop F0)
                      · have kq := kth_spec q3
                        rw [if_pos q3, if_pos q3, vu_ne (fun e => by rw [e, kj.2.2] at kq; omega), vu_ne (fun e => by rw [e, ki.2.2] at kq; omega)]
                      · rw [if_neg q3, if_neg q3]
                rw [← p1, ← p2, eMk]
                dsimp only
                funext q
                by_cases q1 : q = 193
                · subst q1; rw [vu_eq, vu_eq]
                · rw [vu_ne q1, vu_ne q1]
                  by_cases q2 : q = 188
                  · subst q2; rw [vu_eq, vu_eq]
                  · rw [vu_ne q2, vu_ne q2, vu_ne q1, vu_ne q2]
              rw [eM] at nx
              have xn : ¬ x = pop F1 := by omega
              have cx : nI x ≤ nI y := by rw [nI_leI (by omega) (by omega)]; omega
              have h1 : ∀ f, va_up (Mk t) 188 f 189 = Mk t 189 := fun f => vu_ne (by decide)
              have h2 : ∀ f, va_up (Mk t) 188 f 190 = Mk t 190 := fun f => vu_ne (by decide)
              have h3 : ∀ f, va_up (Mk t) 188 f 191 = Mk t 191 := fun f => vu_ne (by decide)
              have h4 : ∀ f, va_up (Mk t) 188 f 193 = Mk t 193 := fun f => vu_ne (by decide)
              simp (disch := first | omega | assumption | exact rfl) only [U_221_8, U_221_10, U_221_12, U_221_13, XX, QQ, WW, KK, QX, SHs, RRs, Nat.reduceAdd, Nat.reduceMul, Nat.reduceLeDiff, Nat.reduceEqDiff, List.length_cons, List.length_nil, decide_true, decide_false, Bool.true_and, Bool.and_true, Bool.false_and, Bool.and_false, false_and, and_false, Bool.false_eq_true, Bool.true_eq_false, reduceCtorEq, eq_self, if_true, if_false, true_and, and_true, not_true_eq_false, not_false_eq_true, if_pos, if_neg, z_ite_not, false_or, or_false, true_or, or_true, SWs, swk_0, swk_1, r90, r91, b3, b4, xn, h1, h2, h3, h4]
              exact nx
            · have pi : P1 x = false := by rw [eP1]; exact w1
              have nx := IH (by rw [pi]; exact ect)
              have nle := (fa_of_lt w2).2.1
              simp (disch := first | omega | assumption | exact rfl) only [U_221_8, U_221_9, XX, QQ, WW, KK, QX, SHs, RRs, Nat.reduceAdd, Nat.reduceMul, Nat.reduceLeDiff, Nat.reduceEqDiff, List.length_cons, List.length_nil, decide_true, decide_false, Bool.true_and, Bool.and_true, Bool.false_and, Bool.and_false, false_and, and_false, Bool.false_eq_true, Bool.true_eq_false, reduceCtorEq, eq_self, if_true, if_false, true_and, and_true, not_true_eq_false, not_false_eq_true, if_pos, if_neg, z_ite_not, false_or, or_false, true_or, or_true, SWs, swk_0, swk_1, r91, nle]
              exact nx
        have st := inner c (Nat.le_refl _) hc e
        have ci : nI i ≤ nI j := by rw [nI_leI (by omega) (by omega)]; omega
        simp (disch := first | omega | assumption | exact rfl) only [U_221_5, XX, QQ, WW, KK, QX, SHs, RRs, Nat.reduceAdd, Nat.reduceMul, Nat.reduceLeDiff, Nat.reduceEqDiff, List.length_cons, List.length_nil, decide_true, decide_false, Bool.true_and, Bool.and_true, Bool.false_and, Bool.and_false, false_and, and_false, Bool.false_eq_true, Bool.true_eq_false, reduceCtorEq, eq_self, if_true, if_false, true_and, and_true, not_true_eq_false, not_false_eq_true, if_pos, if_neg, z_ite_not, false_or, or_false, true_or, or_true, SWs, swk_0, swk_1, r90]
        exact st
      · have qi : Q i = false := by rw [eQ]; exact z1
        rw [qi] at ih
        have nx := ih c hc e
        have nle := (fa_of_lt z2).2.1
        simp (disch := first | omega | assumption | exact rfl) only [U_221_5, U_221_6, U_221_13, XX, QQ, WW, KK, QX, SHs, RRs, Nat.reduceAdd, Nat.reduceMul, Nat.reduceLeDiff, Nat.reduceEqDiff, List.length_cons, List.length_nil, decide_true, decide_false, Bool.true_and, Bool.and_true, Bool.false_and, Bool.and_false, false_and, and_false, Bool.false_eq_true, Bool.true_eq_false, reduceCtorEq, eq_self, if_true, if_false, true_and, and_true, not_true_eq_false, not_false_eq_true, if_pos, if_neg, z_ite_not, false_or, or_false, true_or, or_true, SWs, swk_0, swk_1, r90, nle]
        exact nx
  exact main 0 (Nat.zero_le _) 0 (Nat.zero_le _) rfl
