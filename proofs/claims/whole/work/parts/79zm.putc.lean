/-! ===== putting up: the class ===== -/
theorem c_copyG {X : Nat × (Nat → Int32)} {d : Nat} {I : Nat → Nat → Int32} {J : Nat → Nat → Int64} {W V F : Nat} (hd : 1 ≤ d) (hW : WA (mk I J) W) (hV : WG (mk I J) V F) (hVW : V + 3 < W ∨ W + 3 < V) : ∃ I' J', callF X d 95 [.ref W, .ref V] (mk I J) = some (none, mk I' J') ∧ WG (mk I' J') W F ∧ (∀ i, i < 24 → I' (W + 1) i = I (V + 1) i) ∧ (∀ k, k < W ∨ W + 3 < k → I' k = I k) ∧ (∀ k, k ≠ W → J' k = J k) := by
  have r := s_copyW (X := X) (d := d) (M := mk I J) hd hW hV.1 hVW
  have g := Wcpy_WG hW hV
  have b : ∀ i, i < 24 → m_I (Wcpy (mk I J) W V) (W + 1) i = I (V + 1) i := fun i hi => Wcpy_B hi
  have n : ∀ k, k < W ∨ W + 3 < k → m_I (Wcpy (mk I J) W V) k = I k := fun k hk => by unfold Wcpy; rw [mw_In hk]; rfl
  have j : ∀ k, k ≠ W → m_J (Wcpy (mk I J) W V) k = J k := fun k hk => by unfold Wcpy; rw [mw_Jn hk]; rfl
  unfold Wcpy at r g b n j
  rw [MW_mk] at r g b n j
  exact ⟨_, _, r, g, b, n, j⟩
theorem WB_cg {B B' : Nat → Int32} {n : Nat} (hn : n ≤ 24) (hB : WB B n) (h : ∀ i, i < 24 → B' i = B i) : WB B' n := by
  obtain ⟨a, b, c⟩ := hB
  refine ⟨fun i hi => by rw [h i (by omega)]; exact a i hi, fun i j hi hj e ne => ?_, fun i h1 h2 => by rw [h i h2]; exact c i h1 h2⟩
  rw [h i (by omega), h j (by omega)] at e
  rw [h i (by omega)] at ne
  exact b i j hi hj e ne
/-- behind the laying in a row: the builder's row and what it has laid -/
theorem c_put1 {X : Nat × (Nat → Int32)} {d : Nat} {I : Nat → Nat → Int32} {J : Nat → Nat → Int64} {F0 F1 w y : Nat} {u : Int32} {B : Nat → Int32} (hd : 5 ≤ d) (hw : w < 7) (hy : y ≤ 9999) (hu : w = 1 → u = nI y) (h24 : pop F0 ≤ 24) (hW1 : WG (mk I J) 145 F1) (h146 : ∀ i, i < 24 → I 146 i = -1) (h152 : ∀ i, i < fb_ct (isB B) (pop F0) → I 152 i = B (kth (isB B) (pop F0) i)) (h4 : I 140 4 = nI (fb_ct (isB B) (pop F0))) :
    ∃ f, callF X d 14 [.ref 140, .int (nI w), .int u] (mk I J) = some (none, mk (va_up I 146 f) J) ∧ ∀ k, k < 24 → f k = lyF (tgF (nI w) y (pop F1) (snF F1)) (fun i => B (kth (isB B) (pop F0) i)) (fun _ => -1) (if fb_ct (isB B) (pop F0) < pop F1 then fb_ct (isB B) (pop F0) else pop F1) k := by
  have h24' := hW1.2.2.1
  have n24 := fb_ct_le (isB B) (pop F0)
  obtain ⟨mm, em⟩ : ∃ mm, mm = if fb_ct (isB B) (pop F0) < pop F1 then fb_ct (isB B) (pop F0) else pop F1 := ⟨_, rfl⟩
  have hmm : mm ≤ fb_ct (isB B) (pop F0) ∧ mm ≤ pop F1 := by rw [em]; split <;> omega
  rw [← em]
  have c1 : I 145 1 = nI (pop F1) := hW1.2.2.2.2.1
  have la := c_layInRow (X := X) (d := d) (I := I) (J := J) (cnt := fb_ct (isB B) (pop F0)) (cells := pop F1) (mm := mm) (tg := tgF (nI w) y (pop F1) (snF F1)) (w1 := nI w) (w2 := u) (by omega) em h24' (by omega) h4 c1 (fun i hi => tg_lt (by omega) (fun i hi => sn_lt hi)) (fun f i hi => by
    have hWf : WG (mk (va_up I 146 f) J) 145 F1 := WG_b hW1 (vu_ne (by decide)) (vu_ne (by decide)) (vu_ne (by decide)) rfl
    have sn := c_snake (X := X) (d := d - 1 - 1) (i := i) (by omega) hWf (by omega)
    exact c_targetOf (X := X) (d := d - 1) (w := w) (y := y) (n := pop F1) (i := i) (u := u) (sn := snF F1) (by omega) hw hy hu h24' (by omega) hWf.2.2.2.2.1 sn)
  exact ⟨_, la, lyF_cg mm (fun i hi => h152 i (by omega)) h146⟩
theorem c_putUp {X : Nat × (Nat → Int32)} {d : Nat} {I : Nat → Nat → Int32} {J : Nat → Nat → Int64} {V F0 F1 w y al : Nat} {u : Int32} {B : Nat → Int32} {mks : Nat → Nat} (hd : 6 ≤ d) (hw : w < 7) (hy : y ≤ 9999) (hu : w = 1 → u = nI y) (hV3 : V + 3 < 137) (hV : WG (mk I J) V F0) (hBv : ∀ i, i < 24 → I (V + 1) i = B i) (hB0 : WB B (pop F0)) (hF1 : F1 < 2 ^ 64) (h24' : pop F1 ≤ 24) (h0 : 0 < pop F1) (hal : I 1 1 = nI al) (hal2 : al < 2) (hm : ∀ k, k < 24 → I 2 k = nI (mks k)) (hm4 : ∀ k, k < 24 → mks k < 4) (hV5 : 5 < V) :
    ∃ I' J', callF X d 12 [.ref 140, .ref 1, .ref V, .long (lN F1), .int (nI w), .int u] (mk I J) = some (some (.int (nI (fb_ct (isB B) (pop F0) - pop F1))), mk I' J') ∧ WG (mk I' J') 145 F1 ∧ (∀ k, k < 24 → I' 146 k = (ptF w y F0 B F1 al mks (I 1 0)).2 k) ∧ I' 1 = va_up (I 1) 0 (ptF w y F0 B F1 al mks (I 1 0)).1 ∧ (∀ a, a ≠ 1 → (a < 137 ∨ 176 < a) → I' a = I a) ∧ (∀ a, a < 137 → J' a = J a) := by
  have h24 := hV.2.2.1
  obtain ⟨d, rfl⟩ : ∃ d', d = d' + 1 := ⟨d - 1, by omega⟩
  have wa141 : ∀ (I : Nat → Nat → Int32) (J : Nat → Nat → Int64), WA (mk I J) 141 := fun I J => ⟨rfl, rfl, rfl, rfl, rfl, rfl, rfl⟩
  have wa145 : ∀ (I : Nat → Nat → Int32) (J : Nat → Nat → Int64), WA (mk I J) 145 := fun I J => ⟨rfl, rfl, rfl, rfl, rfl, rfl, rfl⟩
  obtain ⟨Ia, Ja, a1, a2, a3, a4, a5⟩ := c_copyG (X := X) (d := d) (W := 141) (by omega) (wa141 I J) hV (by omega)
  obtain ⟨Ic, Jc, b1, b2, b3, b4, b5⟩ := c_raise (X := X) (d := d) (I := Ia) (J := Ja) (W := 145) (F := F1) (by omega) (wa145 Ia Ja) hF1 h24'
  have eB : ∀ i, i < 24 → Ic 142 i = B i := fun i hi => by rw [b4 142 (by decide), ← hBv i hi]; exact a3 i hi
  have hW0 : WG (mk Ic Jc) 141 F0 := WG_fr a2 (fun a h1 h2 => b4 a (by omega)) (b5 141 (by decide))
  have ga := c_gather (X := X) (d := d) (I := Ic) (J := Jc) (F := F0) (B := B) (by omega) h24 hW0.2.2.2.2.1 eB
  obtain ⟨n, en⟩ : ∃ n, n = fb_ct (isB B) (pop F0) := ⟨_, rfl⟩
  have n24 : n ≤ 24 := by have := fb_ct_le (isB B) (pop F0); omega
  obtain ⟨Ig, eIg⟩ : ∃ Ig, Ig = va_up (va_up Ic 152 (gatB B (pop F0) (pop F0) (Ic 152))) 140 (va_up (Ic 140) 4 (nI n)) := ⟨_, rfl⟩
  rw [← en, ← eIg] at ga
  have gf : ∀ a, a ≠ 140 → a ≠ 152 → Ig a = Ic a := fun a h1 h2 => by rw [eIg, vu_ne h1, vu_ne h2]
  have g4 : Ig 140 4 = nI n := by rw [eIg, vu_eq, vu_eq]
  have g152 : ∀ i, i < n → Ig 152 i = B (kth (isB B) (pop F0) i) := fun i hi => by rw [eIg, vu_ne (by decide), vu_eq]; unfold gatB; rw [if_pos (by omega)]
  have gW0 : WG (mk Ig Jc) 141 F0 := WG_fr hW0 (fun a h1 h2 => gf a (by omega) (by omega)) rfl
  have gW1 : WG (mk Ig Jc) 145 F1 := WG_fr b2 (fun a h1 h2 => gf a (by omega) (by omega)) rfl
  have g146 : ∀ i, i < 24 → Ig 146 i = -1 := fun i hi => by rw [gf 146 (by decide) (by decide)]; exact b3 i hi
  have g142 : ∀ i, i < 24 → Ig 142 i = B i := fun i hi => by rw [gf 142 (by decide) (by decide)]; exact eB i hi
  have gI : ∀ a, (a < 137 ∨ 176 < a) → Ig a = I a := fun a h => by rw [gf a (by omega) (by omega), b4 a (by omega), a4 a (by omega)]
  have gJ : ∀ a, a < 137 → Jc a = J a := fun a h => by rw [b5 a (by omega), a5 a (by omega)]
  have g10 : Ig 1 0 = I 1 0 := by rw [gI 1 (by decide)]
  obtain ⟨x, ex⟩ : ∃ x, x = I 1 0 := ⟨_, rfl⟩
  rw [← ex] at g10 ⊢
  obtain ⟨pt, ept⟩ : ∃ pt, pt = ptF w y F0 B F1 al mks x := ⟨_, rfl⟩
  -- the end
  have fin : ∀ I' : Nat → Nat → Int32, I' 140 4 = nI n → I' 145 1 = nI (pop F1) → Ev X d 12 7 [.ref 140, .ref 1, .ref V, .long (lN F1), .retAddr 0, .int (nI w), .int u] [] (mk I' Jc) (some (.int (nI (n - pop F1))), mk I' Jc) := fun I' e1 e2 => by
    rcases Nat.lt_or_ge n (pop F1) with q | q
    · have ez : n - pop F1 = 0 := by omega
      rw [ez]
      have ml : nI n - nI (pop F1) < nI 0 := by
        rw [iI_n n, iI_n (pop F1), iI_sub, show (nI 0 : Int32) = 0 from rfl, iI_lt0 (by omega) (by omega)]; omega
      have nl := (fa_of_lt ml).2.1
      have nl2 := (fa_of_lt ml).1
      have nl3 := (fa_of_lt ml).2.2.1
      simp (disch := first | omega | assumption | exact rfl) only [U_12_7, XX, QQ, WW, KK, QX, SHs, RRs, Nat.reduceAdd, Nat.reduceMul, Nat.reduceLeDiff, Nat.reduceEqDiff, List.length_cons, List.length_nil, decide_true, decide_false, Bool.true_and, Bool.and_true, Bool.false_and, Bool.and_false, false_and, and_false, Bool.false_eq_true, Bool.true_eq_false, reduceCtorEq, eq_self, if_true, if_false, true_and, and_true, not_true_eq_false, not_false_eq_true, if_pos, if_neg, z_ite_not, false_or, or_false, true_or, or_true, SWs, swk_0, swk_1, e1, e2, nl3]
    · simp (disch := first | omega | assumption | exact rfl) only [U_12_7, XX, QQ, WW, KK, QX, SHs, RRs, Nat.reduceAdd, Nat.reduceMul, Nat.reduceLeDiff, Nat.reduceEqDiff, List.length_cons, List.length_nil, decide_true, decide_false, Bool.true_and, Bool.and_true, Bool.false_and, Bool.and_false, false_and, and_false, Bool.false_eq_true, Bool.true_eq_false, reduceCtorEq, eq_self, if_true, if_false, true_and, and_true, not_true_eq_false, not_false_eq_true, if_pos, if_neg, z_ite_not, false_or, or_false, true_or, or_true, SWs, swk_0, swk_1, e1, e2]
      by_cases z : 0 < n - pop F1
      · rw [if_pos z]
      · rw [if_neg z, show n - pop F1 = 0 by omega]
  -- what the ways make of it
  have way : ∃ I', Ev X d 12 (if w = 4 then 1 else 2) [.ref 140, .ref 1, .ref V, .long (lN F1), .retAddr 0, .int (nI w), .int u] [] (mk Ig Jc) (some (.int (nI (n - pop F1))), mk I' Jc) ∧ WG (mk I' Jc) 145 F1 ∧ (∀ k, k < 24 → I' 146 k = pt.2 k) ∧ I' 1 = va_up (Ig 1) 0 pt.1 ∧ (∀ a, a ≠ 1 → (a < 137 ∨ 176 < a) → I' a = Ig a) := by
    by_cases w4 : w = 4
    · rw [if_pos w4]
      subst w4
      obtain ⟨I', p1, p2, p3⟩ := c_layPairs (X := X) (d := d) (I := Ig) (J := Jc) (F0 := F0) (F1 := F1) (B := B) (by omega) gW0 gW1 g142
      have fe := fin I' (by rw [p3 140 (by decide) (by decide)]; exact g4) (by rw [p3 145 (by decide) (by decide)]; exact gW1.2.2.2.2.1)
      refine ⟨I', ?_, WG_b gW1 (p3 _ (by decide) (by decide)) (p3 _ (by decide) (by decide)) (p3 _ (by decide) (by decide)) rfl, fun k hk => ?_, ?_, fun a h1 h2 => p3 a (by omega) (by omega)⟩
      · simp (disch := first | omega | assumption | exact rfl) only [U_12_1, U_12_3, U_12_5, XX, QQ, WW, KK, QX, SHs, RRs, Nat.reduceAdd, Nat.reduceMul, Nat.reduceLeDiff, Nat.reduceEqDiff, List.length_cons, List.length_nil, decide_true, decide_false, Bool.true_and, Bool.and_true, Bool.false_and, Bool.and_false, false_and, and_false, Bool.false_eq_true, Bool.true_eq_false, reduceCtorEq, eq_self, if_true, if_false, true_and, and_true, not_true_eq_false, not_false_eq_true, if_pos, if_neg, z_ite_not, false_or, or_false, true_or, or_true, SWs, swk_0, swk_1, p1]
        exact fe
      · rw [p2, ept]
        unfold ptF
        rw [if_pos rfl]
        exact (prs_cg h24' g146 (pop F0)).2 k hk
      · rw [p3 1 (by decide) (by decide), ept]
        unfold ptF
        rw [if_pos rfl]
        exact (vu_same g10).symm
    · rw [if_neg w4]
      obtain ⟨f, p1, p2⟩ := c_put1 (X := X) (d := d) (I := Ig) (J := Jc) (F0 := F0) (F1 := F1) (w := w) (y := y) (u := u) (B := B) (by omega) hw hy hu h24 gW1 g146 (fun i hi => g152 i (by omega)) (by rw [g4, en])
      have lw := ly_WB (F1 := F1) (y := y) (v := nI w) (mm := if fb_ct (isB B) (pop F0) < pop F1 then fb_ct (isB B) (pop F0) else pop F1) hB0 rfl
      obtain ⟨ly, ely⟩ : ∃ ly, ly = lyF (tgF (nI w) y (pop F1) (snF F1)) (fun i => B (kth (isB B) (pop F0) i)) (fun _ => -1) (if fb_ct (isB B) (pop F0) < pop F1 then fb_ct (isB B) (pop F0) else pop F1) := ⟨_, rfl⟩
      rw [← ely] at p2 lw
      have fw : WB f (pop F1) := WB_cg h24' lw p2
      obtain ⟨Il, eIl⟩ : ∃ Il, Il = va_up Ig 146 f := ⟨_, rfl⟩
      rw [← eIl] at p1
      have lf : ∀ a, a ≠ 146 → Il a = Ig a := fun a h => by rw [eIl, vu_ne h]
      have l6 : Il 146 = f := by rw [eIl, vu_eq]
      have lW0 : WG (mk Il Jc) 141 F0 := WG_fr gW0 (fun a h1 h2 => lf a (by omega)) rfl
      have lW1 : WG (mk Il Jc) 145 F1 := WG_b gW1 (lf _ (by decide)) (lf _ (by decide)) (lf _ (by decide)) rfl
      by_cases w5 : w = 5
      · subst w5
        obtain ⟨I', q1, q2, q3⟩ := c_mend (X := X) (d := d) (I := Il) (J := Jc) (F1 := F0) (F2 := F1) (al := al) (B1 := B) (B := f) (mks := mks) (by omega) lW0 hB0 (by rw [lf _ (by decide)]; exact g142) lW1 l6 fw (by rw [lf _ (by decide), gI 1 (by decide)]; exact hal) hal2 (fun k hk => by rw [lf _ (by decide), gI 2 (by decide)]; exact hm k hk) hm4
        have fe := fin I' (by rw [q3 140 (by decide) (by decide) (by decide), lf _ (by decide)]; exact g4) (by rw [q3 145 (by decide) (by decide) (by decide)]; exact lW1.2.2.2.2.1)
        refine ⟨I', ?_, WG_b lW1 (q3 _ (by decide) (by decide) (by decide)) (q3 _ (by decide) (by decide) (by decide)) (q3 _ (by decide) (by decide) (by decide)) rfl, fun k hk => ?_, ?_, fun a h1 h2 => by rw [q3 a (by omega) (by omega) (by omega), lf a (by omega)]⟩
        · simp (disch := first | omega | assumption | exact rfl) only [U_12_2, U_12_3, U_12_4, U_12_5, XX, QQ, WW, KK, QX, SHs, RRs, Nat.reduceAdd, Nat.reduceMul, Nat.reduceLeDiff, Nat.reduceEqDiff, List.length_cons, List.length_nil, decide_true, decide_false, Bool.true_and, Bool.and_true, Bool.false_and, Bool.and_false, false_and, and_false, Bool.false_eq_true, Bool.true_eq_false, reduceCtorEq, eq_self, if_true, if_false, true_and, and_true, not_true_eq_false, not_false_eq_true, if_pos, if_neg, z_ite_not, false_or, or_false, true_or, or_true, SWs, swk_0, swk_1, p1, q1]
          exact fe
        · rw [q2, ept]
          unfold ptF
          rw [if_neg w4, if_pos rfl, ← ely]
          have e := mnd_cg (F1 := F0) (B1 := B) (al := al) (mks := mks) h24' mx1 _ _ p2 k hk
          have e1 : (1000 : Nat) = mx1 := rfl
          dsimp only
          rw [e1]
          exact e
        · rw [q3 1 (by decide) (by decide) (by decide), lf _ (by decide), ept]
          unfold ptF
          rw [if_neg w4, if_pos rfl]
          exact (vu_same g10).symm
      · by_cases w6 : w = 6
        · subst w6
          have q1 := c_mix (X := X) (d := d) (I := Il) (J := Jc) (F2 := F1) (B := f) (x := x) (by omega) lW1 h0 l6 (by rw [lf _ (by decide)]; exact g10)
          obtain ⟨I', eI'⟩ : ∃ I', I' = va_up (va_up Il 146 (mxF (pop F1 - 1) x f).2) 1 (va_up (Il 1) 0 (mxF (pop F1 - 1) x f).1) := ⟨_, rfl⟩
          rw [← eI'] at q1
          have q3 : ∀ a, a ≠ 1 → a ≠ 146 → I' a = Il a := fun a h1 h2 => by rw [eI', vu_ne h1, vu_ne h2]
          have fe := fin I' (by rw [q3 140 (by decide) (by decide), lf _ (by decide)]; exact g4) (by rw [q3 145 (by decide) (by decide)]; exact lW1.2.2.2.2.1)
          obtain ⟨m1, m2⟩ := mxF_cg (pop F1 - 1) x f ly (by omega) p2
          refine ⟨I', ?_, WG_b lW1 (q3 _ (by decide) (by decide)) (q3 _ (by decide) (by decide)) (q3 _ (by decide) (by decide)) rfl, fun k hk => ?_, ?_, fun a h1 h2 => by rw [q3 a h1 (by omega), lf a (by omega)]⟩
          · simp (disch := first | omega | assumption | exact rfl) only [U_12_2, U_12_3, U_12_5, U_12_6, XX, QQ, WW, KK, QX, SHs, RRs, Nat.reduceAdd, Nat.reduceMul, Nat.reduceLeDiff, Nat.reduceEqDiff, List.length_cons, List.length_nil, decide_true, decide_false, Bool.true_and, Bool.and_true, Bool.false_and, Bool.and_false, false_and, and_false, Bool.false_eq_true, Bool.true_eq_false, reduceCtorEq, eq_self, if_true, if_false, true_and, and_true, not_true_eq_false, not_false_eq_true, if_pos, if_neg, z_ite_not, false_or, or_false, true_or, or_true, SWs, swk_0, swk_1, p1, q1]
            exact fe
          · rw [eI', vu_ne (by decide), vu_eq, ept]
            unfold ptF
            rw [if_neg w4, if_neg w5, if_pos rfl, ← ely]
            exact m2 k hk
          · rw [eI', vu_eq, ept]
            unfold ptF
            rw [if_neg w4, if_neg w5, if_pos rfl, ← ely, lf _ (by decide), m1]
        · have fe := fin Il (by rw [lf _ (by decide)]; exact g4) lW1.2.2.2.2.1
          refine ⟨Il, ?_, lW1, fun k hk => ?_, ?_, fun a h1 h2 => lf a (by omega)⟩
          · simp (disch := first | omega | assumption | exact rfl) only [U_12_2, U_12_3, U_12_5, XX, QQ, WW, KK, QX, SHs, RRs, Nat.reduceAdd, Nat.reduceMul, Nat.reduceLeDiff, Nat.reduceEqDiff, List.length_cons, List.length_nil, decide_true, decide_false, Bool.true_and, Bool.and_true, Bool.false_and, Bool.and_false, false_and, and_false, Bool.false_eq_true, Bool.true_eq_false, reduceCtorEq, eq_self, if_true, if_false, true_and, and_true, not_true_eq_false, not_false_eq_true, if_pos, if_neg, z_ite_not, false_or, or_false, true_or, or_true, SWs, swk_0, swk_1, p1, w5, w6]
            exact fe
          · rw [l6, ept]
            unfold ptF
            rw [if_neg w4, if_neg w5, if_neg w6, ← ely]
            exact p2 k hk
          · rw [lf _ (by decide), ept]
            unfold ptF
            rw [if_neg w4, if_neg w5, if_neg w6]
            exact (vu_same g10).symm
  obtain ⟨I', t1, t2, t3, t4, t5⟩ := way
  refine ⟨I', Jc, ?_⟩
  rw [← en, ← ept]
  refine ⟨?_, t2, t3, by rw [t4, gI 1 (by decide)], fun a h1 h2 => by rw [t5 a h1 h2, gI a h2], gJ⟩
  refine callF_at (by omega) (by decide) (Nat.le_of_ble_eq_true rfl) (fun d' hd' => ?_)
  obtain rfl : d = d' := by omega
  show Ev X d 12 0 [.ref 140, .ref 1, .ref V, .long (lN F1), .retAddr 0, .int (nI w), .int u] [] (mk I J) _
  by_cases w4 : w = 4
  · subst w4
    rw [if_pos rfl] at t1
    simp (disch := first | omega | assumption | exact rfl) only [U_12_0, XX, QQ, WW, KK, QX, SHs, RRs, Nat.reduceAdd, Nat.reduceMul, Nat.reduceLeDiff, Nat.reduceEqDiff, List.length_cons, List.length_nil, decide_true, decide_false, Bool.true_and, Bool.and_true, Bool.false_and, Bool.and_false, false_and, and_false, Bool.false_eq_true, Bool.true_eq_false, reduceCtorEq, eq_self, if_true, if_false, true_and, and_true, not_true_eq_false, not_false_eq_true, if_pos, if_neg, z_ite_not, false_or, or_false, true_or, or_true, SWs, swk_0, swk_1, a1, b1, ga]
    exact t1
  · rw [if_neg w4] at t1
    simp (disch := first | omega | assumption | exact rfl) only [U_12_0, XX, QQ, WW, KK, QX, SHs, RRs, Nat.reduceAdd, Nat.reduceMul, Nat.reduceLeDiff, Nat.reduceEqDiff, List.length_cons, List.length_nil, decide_true, decide_false, Bool.true_and, Bool.and_true, Bool.false_and, Bool.and_false, false_and, and_false, Bool.false_eq_true, Bool.true_eq_false, reduceCtorEq, eq_self, if_true, if_false, true_and, and_true, not_true_eq_false, not_false_eq_true, if_pos, if_neg, z_ite_not, false_or, or_false, true_or, or_true, SWs, swk_0, swk_1, a1, b1, ga, w4]
    exact t1
