/-! ===== pairs: the class walks ===== -/
def gatP (p : Nat → Bool) (f : Nat → Int32) (N i : Nat) (g : Nat → Int32) : Nat → Int32 := fun k => if k < fb_ct p i then f (kth p N k) else g k
theorem gatP_0 {p : Nat → Bool} {f g : Nat → Int32} {N : Nat} : gatP p f N 0 g = g := by funext k; unfold gatP; rw [if_neg (by simp [fb_ct])]
theorem gatP_n {p : Nat → Bool} {f g : Nat → Int32} {N i : Nat} (h : p i = false) : gatP p f N (i + 1) g = gatP p f N i g ∧ fb_ct p (i + 1) = fb_ct p i := by
  have e : fb_ct p (i + 1) = fb_ct p i := by rw [fb_ct_succ, h]; rfl
  unfold gatP
  rw [e]
  exact ⟨rfl, rfl⟩
theorem gatP_s {p : Nat → Bool} {f g : Nat → Int32} {N i : Nat} (hi : i < N) (h : p i = true) : va_up (gatP p f N i g) (fb_ct p i) (f i) = gatP p f N (i + 1) g ∧ fb_ct p (i + 1) = fb_ct p i + 1 := by
  have e : fb_ct p (i + 1) = fb_ct p i + 1 := by rw [fb_ct_succ, if_pos h]
  refine ⟨?_, e⟩
  funext n; unfold va_up gatP
  rw [e]
  by_cases z : n = fb_ct p i
  · rw [if_pos z, if_pos (by omega), z, kth_ct hi h]
  · rw [if_neg z]
    by_cases z2 : n < fb_ct p i
    · rw [if_pos z2, if_pos (by omega)]
    · rw [if_neg z2, if_neg (by omega)]
theorem c_couple {X : Nat × (Nat → Int32)} {d : Nat} {I : Nat → Nat → Int32} {J : Nat → Nat → Int64} {W F S a b : Nat} {mem : Nat → Bool} (hd : 4 ≤ d) (hW : WG (mk I J) W F) (hS : S < 2 ^ 64) (hSm : ∀ j, j < pop F → S.testBit (pl F j) = mem j) (ha : SH a = (20, 12)) (hb : SH b = (20, 12)) (hab : a ≠ b) (haW : a < W ∨ W + 3 < a) (hbW : b < W ∨ W + 3 < b) :
    callF X d 18 [.ref W, .long (lN S), .ref a, .ref b] (mk I J) = some (some (.int (nI (fb_ct (lsr F mem) (pop F)))), mk (va_up (va_up I a (gatP (lsr F mem) nI (pop F) (pop F) (I a))) b (gatP (lsr F mem) (fun c => nI (cw F mem (pop F) c - 1)) (pop F) (pop F) (I b))) J) := by
  have h24 := hW.2.2.1
  obtain ⟨P, eP⟩ : ∃ P, P = lsr F mem := ⟨_, rfl⟩
  obtain ⟨N, eN⟩ : ∃ N, N = pop F := ⟨_, rfl⟩
  obtain ⟨It, eIt⟩ : ∃ It : Nat → Nat → Nat → Int32, It = fun i => va_up (va_up I a (gatP P nI N i (I a))) b (gatP P (fun c => nI (cw F mem N c - 1)) N i (I b)) := ⟨_, rfl⟩
  have ga : ∀ i, It i a = gatP P nI N i (I a) := fun i => by rw [eIt]; dsimp only; rw [vu_ne hab, vu_eq]
  have gb : ∀ i, It i b = gatP P (fun c => nI (cw F mem N c - 1)) N i (I b) := fun i => by rw [eIt]; dsimp only; rw [vu_eq]
  have gf : ∀ i x, x ≠ a → x ≠ b → It i x = I x := fun i x p q => by rw [eIt]; dsimp only; rw [vu_ne q, vu_ne p]
  have hWt : ∀ i, WG (mk (It i) J) W F := fun i => by
    obtain ⟨g1, g2, g3, g4, g5, g6, g7⟩ := hW
    refine ⟨g1, g2, g3, g4, ?_, fun k hk => ?_, fun k s hk hs => ?_⟩
    · show It i W 1 = _; rw [gf i W (by omega) (by omega)]; exact g5
    · show It i (W + 2) k = _; rw [gf i (W + 2) (by omega) (by omega)]; exact g6 k hk
    · show It i (W + 3) (k * 4 + s) = _; rw [gf i (W + 3) (by omega) (by omega)]; exact g7 k s hk hs
  have hSh : SH W = (9, 5) := hW.1.1
  have hr3 : RR W 3 = some (W + 2) := hW.1.2.2.1
  have hs2 : SH (W + 2) = (20, 24) := hW.1.2.2.2.2.2.1
  have cfin : ∀ i, i ≤ N → 12 ≤ fb_ct P i → fb_ct P i = fb_ct P N ∧ It i = It N := fun i hi h => by
    have l := lsr_12 (F := F) (mem := mem) (n := pop F) (Nat.le_refl _) h24
    rw [← eP, ← eN] at l
    have m := fb_ct_mono P hi
    have e : fb_ct P i = fb_ct P N := by omega
    refine ⟨e, ?_⟩
    rw [eIt]; dsimp only; unfold gatP; rw [e]
  rw [← eP, ← eN]
  have eF : va_up (va_up I a (gatP P nI N N (I a))) b (gatP P (fun c => nI (cw F mem N c - 1)) N N (I b)) = It N := by rw [eIt]
  have e0 : It 0 = I := by rw [eIt]; dsimp only; rw [gatP_0, gatP_0, vu_id, vu_id]
  rw [eF]
  obtain ⟨d, rfl⟩ : ∃ d', d = d' + 1 := ⟨d - 1, by omega⟩
  refine callF_at (by omega) (by decide) (Nat.le_of_ble_eq_true rfl) (fun d' hd' => ?_)
  obtain rfl : d = d' := by omega
  show Ev X d 18 0 [.ref W, .long (lN S), .retAddr 0, .ref a, .ref b, .retAddr 0, .retAddr 0, .retAddr 0, .retAddr 0] [] (mk I J) _
  have lp : ∀ u8 : Value, Ev X d 18 1 [.ref W, .long (lN S), .retAddr 0, .ref a, .ref b, .int (nI 0), .int (nI 0), .int (nI 0), u8] [] (mk I J) (some (.int (nI (fb_ct P N))), mk (It N) J) := by
    refine lpI (n := N) (P := fun i => ∀ u8 : Value, Ev X d 18 1 [.ref W, .long (lN S), .retAddr 0, .ref a, .ref b, .int (nI (fb_ct P i)), .int (nI (bs (fun c => cw F mem i c ≠ 0))), .int (nI i), u8] [] (mk (It i) J) (some (.int (nI (fb_ct P N))), mk (It N) J)) ?_ ?_ (fun Q u8 => by
      have := Q u8
      rw [e0, bs_0 (fun k _ z => z rfl)] at this
      exact this)
    · intro u8
      have c1 : It N W 1 = nI N := by rw [gf N W (by omega) (by omega), eN]; exact hW.2.2.2.2.1
      have N31 : N < 2 ^ 31 := by omega
      rw [U_18_1]
      simp (disch := first | omega | assumption | exact rfl) only [U_18_11, XX, QQ, WW, KK, QX, SHs, RRs, Nat.reduceAdd, Nat.reduceMul, Nat.reduceLeDiff, Nat.reduceEqDiff, List.length_cons, List.length_nil, decide_true, decide_false, Bool.true_and, Bool.and_true, Bool.false_and, Bool.and_false, false_and, and_false, Bool.false_eq_true, Bool.true_eq_false, reduceCtorEq, eq_self, if_true, if_false, true_and, and_true, not_true_eq_false, not_false_eq_true, if_pos, if_neg, z_ite_not, false_or, or_false, true_or, or_true, SWs, swk_0, swk_1, hSh, c1]
    · intro i hi ih u8
      have c1 : It i W 1 = nI N := by rw [gf i W (by omega) (by omega), eN]; exact hW.2.2.2.2.1
      have hiF : i < pop F := by omega
      have i24 : i < 24 := by omega
      have c3 : It i (W + 2) i = nI (pl F i) := by rw [gf i (W + 2) (by omega) (by omega)]; exact hW.2.2.2.2.2.1 i hiF
      have N31 : N < 2 ^ 31 := by omega
      have l12 : fb_ct P i ≤ 12 := by rw [eP]; exact lsr_12 (by omega) h24
      obtain ⟨us, eus⟩ : ∃ us, us = bs (fun c => cw F mem i c ≠ 0) := ⟨_, rfl⟩
      rw [← eus]
      have us24 : us < 2 ^ 24 := by rw [eus]; exact bs_lt _
      have hu : ∀ j, j < pop F → us.testBit j = decide (cw F mem i j ≠ 0) := fun j hj => by
        rw [eus, Bool.eq_iff_iff, bs_tb, decide_eq_true_iff]
        exact ⟨fun z => z.2, fun z => ⟨by omega, z⟩⟩
      have p1 := (pl_spec hiF).1
      have sh := s_has (X := X) (d := d) (M := mk (It i) J) (F := S) (q := pl F i) (by omega) hS (by omega)
      rw [hSm i hiF] at sh
      have b0 := s_cellBeside (X := X) (d := d) (s := 0) (by omega) (hWt i) hiF (by decide)
      have b2 := s_cellBeside (X := X) (d := d) (s := 2) (by omega) (hWt i) hiF (by decide)
      have tv : ∀ s, tch F i s = -1 ∨ ∃ j, j < pop F ∧ tch F i s = nI j := fun s => by
        rcases tch_in (s := s) hiF with q | ⟨j, hj, q1, _⟩
        · exact .inl q
        · exact .inr ⟨j, hj, q1⟩
      have f0 := c_freeOf (X := X) (d := d) (S := S) (us := us) (by omega) (hWt i) hS us24 (tv 0)
      have f2 := c_freeOf (X := X) (d := d) (S := S) (us := us) (by omega) (hWt i) hS us24 (tv 2)
      rw [U_18_1]
      rcases Nat.lt_or_ge (fb_ct P i) 12 with k12 | k12
      · have lz := lsr_s (F := F) (mem := mem) (n := i) hiF
        rw [← eP] at lz
        have cl := fnx_cl hiF h24 hSm hu
        have ui := hu i hiF
        by_cases m : mem i = true
        · rw [m] at sh
          by_cases z : cw F mem i i = 0
          · rw [show decide (cw F mem i i ≠ 0) = false by simp [z]] at ui
            obtain ⟨x, ex⟩ : ∃ x, x = fnx F mem (cw F mem i) i := ⟨_, rfl⟩
            rw [← ex] at lz cl
            -- a couple
            have couple : x < pop F → ∀ u : Value, Ev X d 18 9 [.ref W, .long (lN S), .retAddr 0, .ref a, .ref b, .int (nI (fb_ct P i)), .int (nI us), .int (nI i), .int (nI x)] [] (mk (It i) J) (some (.int (nI (fb_ct P N))), mk (It N) J) := fun hx u => by
              rcases lz with ⟨z1, z2, z3, z4, z5, z6⟩ | ⟨y, _⟩
              · obtain ⟨s1, s2⟩ := gatP_s (p := P) (f := nI) (g := I a) (N := N) hi z4
                obtain ⟨s3, _⟩ := gatP_s (p := P) (f := fun c => nI (cw F mem N c - 1)) (g := I b) (N := N) hi z4
                have xv : cw F mem N i - 1 = x := by rw [eN, z5]; omega
                have eI : va_up (va_up (It i) a (va_up (It i a) (fb_ct P i) (nI i))) b (va_up (It i b) (fb_ct P i) (nI x)) = It (i + 1) := by
                  rw [ga, gb, s1]
                  have s3' : va_up (gatP P (fun c => nI (cw F mem N c - 1)) N i (I b)) (fb_ct P i) (nI x) = gatP P (fun c => nI (cw F mem N c - 1)) N (i + 1) (I b) := by rw [← s3, xv]
                  rw [s3', eIt]
                  dsimp only
                  funext q
                  by_cases q1 : q = b
                  · subst q1; rw [vu_eq, vu_eq]
                  · rw [vu_ne q1, vu_ne q1]
                    by_cases q2 : q = a
                    · subst q2; rw [vu_eq, vu_eq]
                    · rw [vu_ne q2, vu_ne q2, vu_ne q1, vu_ne q2]
                have eU : us ||| (2 ^ i ||| 2 ^ x) = bs (fun c => cw F mem (i + 1) c ≠ 0) := by
                  rw [eus, ← Nat.or_assoc, bs_ins i24, bs_ins (by omega), z6]
                  refine bs_ext (fun c _ => ?_)
                  by_cases q1 : c = x
                  · subst q1; rw [vu_eq]; exact ⟨fun _ => by omega, fun _ => .inr rfl⟩
                  · rw [vu_ne q1]
                    by_cases q2 : c = i
                    · subst q2; rw [vu_eq]; exact ⟨fun _ => by omega, fun _ => .inl (.inr rfl)⟩
                    · rw [vu_ne q2]
                      exact ⟨fun t => by rcases t with (t | t) | t; exact t; exact absurd t q2; exact absurd t q1, fun t => .inl (.inl t)⟩
                rw [s2, ← eU, ← eI] at ih
                have x24 : x < 24 := by omega
                have wb : va_up (It i) a (va_up (It i a) (fb_ct P i) (nI i)) b = It i b := vu_ne (fun t => hab t.symm)
                simp (disch := first | omega | assumption | exact rfl) only [U_18_9, U_18_10, XX, QQ, WW, KK, QX, SHs, RRs, Nat.reduceAdd, Nat.reduceMul, Nat.reduceLeDiff, Nat.reduceEqDiff, List.length_cons, List.length_nil, decide_true, decide_false, Bool.true_and, Bool.and_true, Bool.false_and, Bool.and_false, false_and, and_false, Bool.false_eq_true, Bool.true_eq_false, reduceCtorEq, eq_self, if_true, if_false, true_and, and_true, not_true_eq_false, not_false_eq_true, if_pos, if_neg, z_ite_not, false_or, or_false, true_or, or_true, SWs, swk_0, swk_1, ha, hb, wb, Nat.one_mul, fa_or]
                exact ih _
              · exact absurd ⟨m, z, hx⟩ y
            rcases cl with ⟨hx, e0'⟩ | ⟨e0', hx, e2⟩ | ⟨e0', e2, hx⟩
            · have cp := couple hx u8
              rw [e0'] at f0
              have xn := nI_ne (b := x) (by omega)
              simp (disch := first | omega | assumption | exact rfl) only [U_18_2, U_18_3, U_18_4, U_18_6, U_18_8, XX, QQ, WW, KK, QX, SHs, RRs, Nat.reduceAdd, Nat.reduceMul, Nat.reduceLeDiff, Nat.reduceEqDiff, List.length_cons, List.length_nil, decide_true, decide_false, Bool.true_and, Bool.and_true, Bool.false_and, Bool.and_false, false_and, and_false, Bool.false_eq_true, Bool.true_eq_false, reduceCtorEq, eq_self, if_true, if_false, true_and, and_true, not_true_eq_false, not_false_eq_true, if_pos, if_neg, z_ite_not, false_or, or_false, true_or, or_true, SWs, swk_0, swk_1, hSh, c1, hr3, hs2, c3, sh, b0, f0, ui, xn]
              exact cp
            · have cp := couple hx u8
              rw [e0'] at f0
              rw [e2] at f2
              have xn := nI_ne (b := x) (by omega)
              simp (disch := first | omega | assumption | exact rfl) only [U_18_2, U_18_3, U_18_4, U_18_6, U_18_7, U_18_8, XX, QQ, WW, KK, QX, SHs, RRs, Nat.reduceAdd, Nat.reduceMul, Nat.reduceLeDiff, Nat.reduceEqDiff, List.length_cons, List.length_nil, decide_true, decide_false, Bool.true_and, Bool.and_true, Bool.false_and, Bool.and_false, false_and, and_false, Bool.false_eq_true, Bool.true_eq_false, reduceCtorEq, eq_self, if_true, if_false, true_and, and_true, not_true_eq_false, not_false_eq_true, if_pos, if_neg, z_ite_not, false_or, or_false, true_or, or_true, SWs, swk_0, swk_1, hSh, c1, hr3, hs2, c3, sh, b0, f0, b2, f2, ui, xn]
              exact cp
            · rcases lz with ⟨z1, z2, z3, z4, z5, z6⟩ | ⟨y, z4, z6⟩
              · omega
              · obtain ⟨s1, s2⟩ := gatP_n (p := P) (f := nI) (g := I a) (N := N) z4
                obtain ⟨s3, _⟩ := gatP_n (p := P) (f := fun c => nI (cw F mem N c - 1)) (g := I b) (N := N) z4
                have eI : It (i + 1) = It i := by rw [eIt]; dsimp only; rw [s1, s3]
                rw [s2, eI, z6, ← eus] at ih
                rw [e0'] at f0
                rw [e2] at f2
                simp (disch := first | omega | assumption | exact rfl) only [U_18_2, U_18_3, U_18_4, U_18_6, U_18_7, U_18_8, U_18_10, XX, QQ, WW, KK, QX, SHs, RRs, Nat.reduceAdd, Nat.reduceMul, Nat.reduceLeDiff, Nat.reduceEqDiff, List.length_cons, List.length_nil, decide_true, decide_false, Bool.true_and, Bool.and_true, Bool.false_and, Bool.and_false, false_and, and_false, Bool.false_eq_true, Bool.true_eq_false, reduceCtorEq, eq_self, if_true, if_false, true_and, and_true, not_true_eq_false, not_false_eq_true, if_pos, if_neg, z_ite_not, false_or, or_false, true_or, or_true, SWs, swk_0, swk_1, hSh, c1, hr3, hs2, c3, sh, b0, f0, b2, f2, ui]
                exact ih _
          · rcases lz with ⟨z1, z2, z3, z4, z5, z6⟩ | ⟨y, z4, z6⟩
            · exact absurd z2 z
            · obtain ⟨s1, s2⟩ := gatP_n (p := P) (f := nI) (g := I a) (N := N) z4
              obtain ⟨s3, _⟩ := gatP_n (p := P) (f := fun c => nI (cw F mem N c - 1)) (g := I b) (N := N) z4
              have eI : It (i + 1) = It i := by rw [eIt]; dsimp only; rw [s1, s3]
              rw [s2, eI, z6, ← eus] at ih
              rw [show decide (cw F mem i i ≠ 0) = true by simp [z]] at ui
              simp (disch := first | omega | assumption | exact rfl) only [U_18_2, U_18_3, U_18_10, XX, QQ, WW, KK, QX, SHs, RRs, Nat.reduceAdd, Nat.reduceMul, Nat.reduceLeDiff, Nat.reduceEqDiff, List.length_cons, List.length_nil, decide_true, decide_false, Bool.true_and, Bool.and_true, Bool.false_and, Bool.and_false, false_and, and_false, Bool.false_eq_true, Bool.true_eq_false, reduceCtorEq, eq_self, if_true, if_false, true_and, and_true, not_true_eq_false, not_false_eq_true, if_pos, if_neg, z_ite_not, false_or, or_false, true_or, or_true, SWs, swk_0, swk_1, hSh, c1, ui]
              exact ih _
        · rcases lz with ⟨z1, _⟩ | ⟨y, z4, z6⟩
          · exact absurd z1 m
          · obtain ⟨s1, s2⟩ := gatP_n (p := P) (f := nI) (g := I a) (N := N) z4
            obtain ⟨s3, _⟩ := gatP_n (p := P) (f := fun c => nI (cw F mem N c - 1)) (g := I b) (N := N) z4
            have eI : It (i + 1) = It i := by rw [eIt]; dsimp only; rw [s1, s3]
            rw [s2, eI, z6, ← eus] at ih
            rw [show mem i = false by simpa using m] at sh
            cases uv : us.testBit i with
            | true =>
              simp (disch := first | omega | assumption | exact rfl) only [U_18_2, U_18_3, U_18_10, XX, QQ, WW, KK, QX, SHs, RRs, Nat.reduceAdd, Nat.reduceMul, Nat.reduceLeDiff, Nat.reduceEqDiff, List.length_cons, List.length_nil, decide_true, decide_false, Bool.true_and, Bool.and_true, Bool.false_and, Bool.and_false, false_and, and_false, Bool.false_eq_true, Bool.true_eq_false, reduceCtorEq, eq_self, if_true, if_false, true_and, and_true, not_true_eq_false, not_false_eq_true, if_pos, if_neg, z_ite_not, false_or, or_false, true_or, or_true, SWs, swk_0, swk_1, hSh, c1, uv]
              exact ih _
            | false =>
              simp (disch := first | omega | assumption | exact rfl) only [U_18_2, U_18_3, U_18_4, U_18_5, U_18_10, XX, QQ, WW, KK, QX, SHs, RRs, Nat.reduceAdd, Nat.reduceMul, Nat.reduceLeDiff, Nat.reduceEqDiff, List.length_cons, List.length_nil, decide_true, decide_false, Bool.true_and, Bool.and_true, Bool.false_and, Bool.and_false, false_and, and_false, Bool.false_eq_true, Bool.true_eq_false, reduceCtorEq, eq_self, if_true, if_false, true_and, and_true, not_true_eq_false, not_false_eq_true, if_pos, if_neg, z_ite_not, false_or, or_false, true_or, or_true, SWs, swk_0, swk_1, hSh, c1, hr3, hs2, c3, sh, uv]
              exact ih _
      · obtain ⟨k1, k2⟩ := cfin i (by omega) k12
        have k3 : fb_ct P i = 12 := by omega
        have k4 : fb_ct P N = 12 := by omega
        rw [k2] at c1
        rw [k2, k3, k4]
        simp (disch := first | omega | assumption | exact rfl) only [U_18_2, U_18_11, XX, QQ, WW, KK, QX, SHs, RRs, Nat.reduceAdd, Nat.reduceMul, Nat.reduceLeDiff, Nat.reduceEqDiff, List.length_cons, List.length_nil, decide_true, decide_false, Bool.true_and, Bool.and_true, Bool.false_and, Bool.and_false, false_and, and_false, Bool.false_eq_true, Bool.true_eq_false, reduceCtorEq, eq_self, if_true, if_false, true_and, and_true, not_true_eq_false, not_false_eq_true, if_pos, if_neg, z_ite_not, false_or, or_false, true_or, or_true, SWs, swk_0, swk_1, hSh, c1]
  simp (disch := first | omega | assumption | exact rfl) only [U_18_0, XX, QQ, WW, KK, QX, SHs, RRs, Nat.reduceAdd, Nat.reduceMul, Nat.reduceLeDiff, Nat.reduceEqDiff, List.length_cons, List.length_nil, decide_true, decide_false, Bool.true_and, Bool.and_true, Bool.false_and, Bool.and_false, false_and, and_false, Bool.false_eq_true, Bool.true_eq_false, reduceCtorEq, eq_self, if_true, if_false, true_and, and_true, not_true_eq_false, not_false_eq_true, if_pos, if_neg, z_ite_not, false_or, or_false, true_or, or_true, SWs, swk_0, swk_1]
  exact lp _
