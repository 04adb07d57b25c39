/-! ===== the reference's matching: the search ===== -/
def oM (v : Nat) : Int32 := if v = 0 then -1 else nI (v - 1)
def RK (N : Nat) (I : Nat → Nat → Int32) (cm : Nat → Nat) (sn : Nat → Bool) : Prop := (∀ j, j < N → I 191 j = oM (cm j)) ∧ (∀ j, j < N → I 195 j = bI (sn j))
def EF (F u k : Nat) : Prop := adj (pl F u) (pl F k)
theorem r_findsMate {X : Nat × (Nat → Int32)} {J : Nat → Nat → Int64} {s F : Nat} (hs : s < 6) : ∀ (n v d : Nat) (cm : Nat → Nat) (sn : Nat → Bool) (I : Nat → Nat → Int32), RSh (I 178) s F → RK (pop F) I cm sn → MtC (pop F) (EF F) cm → v < pop F → (∀ k, k < pop F → cm k = v + 1 → sn k = true) → fb_ct (fun j => !sn j) (pop F) ≤ n → n + 4 ≤ d →
    ∃ I', ((∃ sn', callF X d 242 [.ref 177, .int (nI s), .int (nI v)] (mk I J) = some (some (.int (nI 0)), mk I' J) ∧ RK (pop F) I' cm sn' ∧ FMf (pop F) (EF F) v cm sn sn') ∨ (∃ cm' sn', callF X d 242 [.ref 177, .int (nI s), .int (nI v)] (mk I J) = some (some (.int (nI 1)), mk I' J) ∧ RK (pop F) I' cm' sn' ∧ FMt (pop F) (EF F) v cm sn cm')) ∧ (∀ a, a ≠ 191 → a ≠ 195 → I' a = I a) := by
  intro n
  induction n with
  | zero =>
    intro v d cm sn I hS hK hC hv h3 hn hd
    -- all are seen
    have all : ∀ k, k < pop F → sn k = true := fun k hk => by
      have := fb_ct_zero.mp (Nat.le_zero.mp hn) k hk
      simpa using this
    refine ⟨I, .inl ⟨sn, ?_, hK, fun _ h => h, fun j hj _ => all j hj, fun j hj _ h => by rw [all j hj] at h; cases h⟩, fun _ _ _ => rfl⟩
    have h24 := hS.1
    have c70 : I 178 (70 + s) = nI (pop F) := hS.2.1
    refine callF_at (by omega) (by decide) (Nat.le_of_ble_eq_true rfl) (fun d _ => ?_)
    show Ev X d 242 0 [.ref 177, .int (nI s), .int (nI v), .retAddr 0] [] ( mk I J) _
    have lp : Ev X d 242 1 [.ref 177, .int (nI s), .int (nI v), .int (nI 0)] [] (mk I J) (some (.int (nI 0)), mk I J) := by
      refine lpI (n := pop F) (P := fun j => Ev X d 242 1 [.ref 177, .int (nI s), .int (nI v), .int (nI j)] [] (mk I J) (some (.int (nI 0)), mk I J)) ?_ ?_ (fun Q => Q)
      · rw [U_242_1]
        simp (disch := first | omega | assumption | exact rfl) only [U_242_10, XX, QQ, WW, KK, QX, SHs, RRs, Nat.reduceAdd, Nat.reduceMul, Nat.reduceLeDiff, Nat.reduceEqDiff, List.length_cons, List.length_nil, decide_true, decide_false, Bool.true_and, Bool.and_true, Bool.false_and, Bool.and_false, false_and, and_false, Bool.false_eq_true, Bool.true_eq_false, reduceCtorEq, eq_self, if_true, if_false, true_and, and_true, not_true_eq_false, not_false_eq_true, if_pos, if_neg, z_ite_not, false_or, or_false, true_or, or_true, SWs, swk_0, swk_1, c70]
      · intro j hj ih
        have j24 : j < 24 := by omega
        have e : I 195 j = nI 1 := by rw [hK.2 j hj, all j hj]; rfl
        rw [U_242_1]
        simp (disch := first | omega | assumption | exact rfl) only [U_242_2, U_242_9, XX, QQ, WW, KK, QX, SHs, RRs, Nat.reduceAdd, Nat.reduceMul, Nat.reduceLeDiff, Nat.reduceEqDiff, List.length_cons, List.length_nil, decide_true, decide_false, Bool.true_and, Bool.and_true, Bool.false_and, Bool.and_false, false_and, and_false, Bool.false_eq_true, Bool.true_eq_false, reduceCtorEq, eq_self, if_true, if_false, true_and, and_true, not_true_eq_false, not_false_eq_true, if_pos, if_neg, z_ite_not, false_or, or_false, true_or, or_true, SWs, swk_0, swk_1, c70, e]
        exact ih
    simp (disch := first | omega | assumption | exact rfl) only [U_242_0, XX, QQ, WW, KK, QX, SHs, RRs, Nat.reduceAdd, Nat.reduceMul, Nat.reduceLeDiff, Nat.reduceEqDiff, List.length_cons, List.length_nil, decide_true, decide_false, Bool.true_and, Bool.and_true, Bool.false_and, Bool.and_false, false_and, and_false, Bool.false_eq_true, Bool.true_eq_false, reduceCtorEq, eq_self, if_true, if_false, true_and, and_true, not_true_eq_false, not_false_eq_true, if_pos, if_neg, z_ite_not, false_or, or_false, true_or, or_true, SWs, swk_0, swk_1]
    exact lp
  | succ n ih =>
    intro v d cm sn I hS hK hC hv h3 hn hd
    have h24 := hS.1
    have c70 : I 178 (70 + s) = nI (pop F) := hS.2.1
    obtain ⟨d, rfl⟩ : ∃ d', d = d' + 1 := ⟨d - 1, by omega⟩
    have v24 : v < 24 := by omega
    have lp : ∃ I', ((∃ sn', Ev X d 242 1 [.ref 177, .int (nI s), .int (nI v), .int (nI 0)] [] (mk I J) (some (.int (nI 0)), mk I' J) ∧ RK (pop F) I' cm sn' ∧ FMf (pop F) (EF F) v cm sn sn') ∨ (∃ cm' sn', Ev X d 242 1 [.ref 177, .int (nI s), .int (nI v), .int (nI 0)] [] (mk I J) (some (.int (nI 1)), mk I' J) ∧ RK (pop F) I' cm' sn' ∧ FMt (pop F) (EF F) v cm sn cm')) ∧ (∀ a, a ≠ 191 → a ≠ 195 → I' a = I a) := by
      refine lpI (n := pop F) (P := fun j => ∀ (I1 : Nat → Nat → Int32) (sn1 : Nat → Bool), (∀ a, a ≠ 191 → a ≠ 195 → I1 a = I a) → RK (pop F) I1 cm sn1 → (∀ k, sn k = true → sn1 k = true) → (∀ k, k < j → EF F v k → sn1 k = true) → (∀ k, k < pop F → sn1 k = true → sn k = false → ∃ u, cm k = u + 1 ∧ ∀ m, m < pop F → EF F u m → sn1 m = true) → ∃ I', ((∃ sn', Ev X d 242 1 [.ref 177, .int (nI s), .int (nI v), .int (nI j)] [] (mk I1 J) (some (.int (nI 0)), mk I' J) ∧ RK (pop F) I' cm sn' ∧ FMf (pop F) (EF F) v cm sn sn') ∨ (∃ cm' sn', Ev X d 242 1 [.ref 177, .int (nI s), .int (nI v), .int (nI j)] [] (mk I1 J) (some (.int (nI 1)), mk I' J) ∧ RK (pop F) I' cm' sn' ∧ FMt (pop F) (EF F) v cm sn cm')) ∧ (∀ a, a ≠ 191 → a ≠ 195 → I' a = I a)) ?_ ?_ (fun Q => Q I sn (fun _ _ _ => rfl) hK (fun _ h => h) (fun k hk => by omega) (fun k _ a b => by rw [a] at b; cases b))
      · intro I1 sn1 fr k1 q1 q2 q3
        refine ⟨I1, .inl ⟨sn1, ?_, k1, q1, q2, q3⟩, fr⟩
        have c : I1 178 (70 + s) = nI (pop F) := by rw [fr 178 (by decide) (by decide)]; exact c70
        rw [U_242_1]
        simp (disch := first | omega | assumption | exact rfl) only [U_242_10, XX, QQ, WW, KK, QX, SHs, RRs, Nat.reduceAdd, Nat.reduceMul, Nat.reduceLeDiff, Nat.reduceEqDiff, List.length_cons, List.length_nil, decide_true, decide_false, Bool.true_and, Bool.and_true, Bool.false_and, Bool.and_false, false_and, and_false, Bool.false_eq_true, Bool.true_eq_false, reduceCtorEq, eq_self, if_true, if_false, true_and, and_true, not_true_eq_false, not_false_eq_true, if_pos, if_neg, z_ite_not, false_or, or_false, true_or, or_true, SWs, swk_0, swk_1, c]
      · intro j hj IH I1 sn1 fr k1 q1 q2 q3
        have j24 : j < 24 := by omega
        have c : I1 178 (70 + s) = nI (pop F) := by rw [fr 178 (by decide) (by decide)]; exact c70
        have hS1 : RSh (I1 178) s F := by rw [fr 178 (by decide) (by decide)]; exact hS
        have sj := k1.2 j hj
        have wt := r_shapeTouch (X := X) (d := d) (I := I1) (J := J) (s := s) (F := F) (i := v) (j := j) (by omega) hs hS1 hv hj
        have skip : (EF F v j → sn1 j = true) → (∀ r, Ev X d 242 1 [.ref 177, .int (nI s), .int (nI v), .int (nI (j + 1))] [] (mk I1 J) r → Ev X d 242 1 [.ref 177, .int (nI s), .int (nI v), .int (nI j)] [] (mk I1 J) r) → ∃ I', ((∃ sn', Ev X d 242 1 [.ref 177, .int (nI s), .int (nI v), .int (nI j)] [] (mk I1 J) (some (.int (nI 0)), mk I' J) ∧ RK (pop F) I' cm sn' ∧ FMf (pop F) (EF F) v cm sn sn') ∨ (∃ cm' sn', Ev X d 242 1 [.ref 177, .int (nI s), .int (nI v), .int (nI j)] [] (mk I1 J) (some (.int (nI 1)), mk I' J) ∧ RK (pop F) I' cm' sn' ∧ FMt (pop F) (EF F) v cm sn cm')) ∧ (∀ a, a ≠ 191 → a ≠ 195 → I' a = I a) := fun hj1 go => by
          obtain ⟨I', h, f⟩ := IH I1 sn1 fr k1 q1 (fun k hk e => by
            by_cases z : k = j
            · subst z; exact hj1 e
            · exact q2 k (by omega) e) q3
          refine ⟨I', ?_, f⟩
          rcases h with ⟨sn', x1, x2⟩ | ⟨cm', sn', x1, x2⟩
          · exact .inl ⟨sn', go _ x1, x2⟩
          · exact .inr ⟨cm', sn', go _ x1, x2⟩
        cases e : sn1 j with
        | true =>
          rw [e] at sj
          have sj : I1 195 j = nI 1 := sj
          refine skip (fun _ => e) (fun r H => ?_)
          rw [U_242_1]
          simp (disch := first | omega | assumption | exact rfl) only [U_242_2, U_242_9, XX, QQ, WW, KK, QX, SHs, RRs, Nat.reduceAdd, Nat.reduceMul, Nat.reduceLeDiff, Nat.reduceEqDiff, List.length_cons, List.length_nil, decide_true, decide_false, Bool.true_and, Bool.and_true, Bool.false_and, Bool.and_false, false_and, and_false, Bool.false_eq_true, Bool.true_eq_false, reduceCtorEq, eq_self, if_true, if_false, true_and, and_true, not_true_eq_false, not_false_eq_true, if_pos, if_neg, z_ite_not, false_or, or_false, true_or, or_true, SWs, swk_0, swk_1, c, sj]
          exact H
        | false =>
          rw [e] at sj
          have sj : I1 195 j = nI 0 := sj
          by_cases t : adj (pl F v) (pl F j)
          · rw [cd_iff.mpr t] at wt
            have s0 : sn j = false := by
              cases w : sn j with
              | false => rfl
              | true => rw [q1 j w] at e; cases e
            obtain ⟨I2, eI2⟩ : ∃ I2, I2 = va_up I1 195 (va_up (I1 195) j (nI 1)) := ⟨_, rfl⟩
            obtain ⟨sn2, esn⟩ : ∃ sn2, sn2 = va_up sn1 j true := ⟨_, rfl⟩
            have fr2 : ∀ a, a ≠ 191 → a ≠ 195 → I2 a = I a := fun a h1 h2 => by rw [eI2, vu_ne h2]; exact fr a h1 h2
            have i191 : I2 191 = I1 191 := by rw [eI2, vu_ne (by decide)]
            have k2 : RK (pop F) I2 cm sn2 := ⟨fun k hk => by rw [i191]; exact k1.1 k hk, fun k hk => by
              rw [eI2, vu_eq, esn]
              by_cases z : k = j
              · subst z; rw [vu_eq, vu_eq]; rfl
              · rw [vu_ne z, vu_ne z]; exact k1.2 k hk⟩
            have s12 : ∀ k, sn1 k = true → sn2 k = true := fun k hk => by
              rw [esn]
              by_cases z : k = j
              · subst z; exact vu_eq
              · rw [vu_ne z]; exact hk
            have s2j : sn2 j = true := by rw [esn]; exact vu_eq
            have cj := k2.1 j hj
            by_cases y : cm j = 0
            · -- it is free
              have cj : I2 191 j = -1 := by rw [cj, y]; rfl
              refine ⟨va_up I2 191 (va_up (I2 191) j (nI v)), .inr ⟨va_up cm j (v + 1), sn2, ?_, ⟨fun k hk => ?_, fun k hk => ?_⟩, FM_base hC hv h3 hj s0 t y⟩, fun a h1 h2 => by rw [vu_ne h1]; exact fr2 a h1 h2⟩
              · rw [eI2] at cj ⊢
                rw [U_242_1]
                simp (disch := first | omega | assumption | exact rfl) only [U_242_2, U_242_3, U_242_5, U_242_8, XX, QQ, WW, KK, QX, SHs, RRs, Nat.reduceAdd, Nat.reduceMul, Nat.reduceLeDiff, Nat.reduceEqDiff, List.length_cons, List.length_nil, decide_true, decide_false, Bool.true_and, Bool.and_true, Bool.false_and, Bool.and_false, false_and, and_false, Bool.false_eq_true, Bool.true_eq_false, reduceCtorEq, eq_self, if_true, if_false, true_and, and_true, not_true_eq_false, not_false_eq_true, if_pos, if_neg, z_ite_not, false_or, or_false, true_or, or_true, SWs, swk_0, swk_1, c, sj, wt, cj]
              · rw [vu_eq]
                by_cases z : k = j
                · subst z; rw [vu_eq, vu_eq]; unfold oM; rw [if_neg (by omega), Nat.add_sub_cancel]
                · rw [vu_ne z, vu_ne z]; exact k2.1 k hk
              · rw [vu_ne (by decide)]; exact k2.2 k hk
            · obtain ⟨u, eu⟩ : ∃ u, cm j = u + 1 := ⟨cm j - 1, by omega⟩
              obtain ⟨uN, _⟩ := hC.1 j hj u eu
              have cju : I2 191 j = nI u := by rw [cj, eu]; unfold oM; rw [if_neg (by omega), Nat.add_sub_cancel]
              have un := nI_ne (b := u) (by omega)
              have cnt : fb_ct (fun k => !sn2 k) (pop F) ≤ n := by
                have a : fb_ct (fun k => !sn2 k) (pop F) + 1 ≤ fb_ct (fun k => !sn k) (pop F) := by
                  have z := ct_add (p := fun k => !sn2 k) (i := j) (n := pop F) hj (by rw [s2j]; rfl)
                  rw [← z]
                  refine fb_ct_sub (fun k hk h => ?_)
                  by_cases zk : k = j
                  · subst zk; rw [s0]; rfl
                  · rw [if_neg zk] at h
                    cases w : sn k with
                    | false => rfl
                    | true => rw [s12 k (q1 k w)] at h; cases h
                omega
              obtain ⟨I3, h, f3⟩ := ih u d cm sn2 I2 (by rw [fr2 178 (by decide) (by decide)]; exact hS) k2 hC uN (fun k hk e2 => by
                have : k = j := hC.2 k j hk hj (by rw [e2, eu]) (by rw [e2]; omega)
                subst this; exact s2j) cnt (by omega)
              have fr3 : ∀ a, a ≠ 191 → a ≠ 195 → I3 a = I a := fun a h1 h2 => by rw [f3 a h1 h2]; exact fr2 a h1 h2
              rcases h with ⟨sn3, x1, x2, x3, x4, x5⟩ | ⟨cm', sn3, x1, x2, x3⟩
              · -- no way there
                obtain ⟨I', h, f⟩ := IH I3 sn3 fr3 x2 (fun k hk => x3 k (s12 k (q1 k hk))) (fun k hk e2 => by
                  by_cases z : k = j
                  · subst z; exact x3 k s2j
                  · exact x3 k (s12 k (q2 k (by omega) e2))) (fun k hk a b => by
                  cases w2 : sn2 k with
                  | false => exact x5 k hk a w2
                  | true =>
                    by_cases z : k = j
                    · subst z; exact ⟨u, eu, x4⟩
                    · have : sn1 k = true := by rw [esn, vu_ne z] at w2; exact w2
                      obtain ⟨u', y1, y2⟩ := q3 k hk this b
                      exact ⟨u', y1, fun m hm e3 => x3 m (s12 m (y2 m hm e3))⟩)
                refine ⟨I', ?_, f⟩
                have go : ∀ r, Ev X d 242 1 [.ref 177, .int (nI s), .int (nI v), .int (nI (j + 1))] [] (mk I3 J) r → Ev X d 242 1 [.ref 177, .int (nI s), .int (nI v), .int (nI j)] [] (mk I1 J) r := fun r H => by
                  rw [eI2] at cju x1
                  rw [U_242_1]
                  simp (disch := first | omega | assumption | exact rfl) only [U_242_2, U_242_3, U_242_5, U_242_6, U_242_7, U_242_9, XX, QQ, WW, KK, QX, SHs, RRs, Nat.reduceAdd, Nat.reduceMul, Nat.reduceLeDiff, Nat.reduceEqDiff, List.length_cons, List.length_nil, decide_true, decide_false, Bool.true_and, Bool.and_true, Bool.false_and, Bool.and_false, false_and, and_false, Bool.false_eq_true, Bool.true_eq_false, reduceCtorEq, eq_self, if_true, if_false, true_and, and_true, not_true_eq_false, not_false_eq_true, if_pos, if_neg, z_ite_not, false_or, or_false, true_or, or_true, SWs, swk_0, swk_1, c, sj, wt, cju, un, x1]
                  exact H
                rcases h with ⟨sn', y1, y2⟩ | ⟨cm', sn', y1, y2⟩
                · exact .inl ⟨sn', go _ y1, y2⟩
                · exact .inr ⟨cm', sn', go _ y1, y2⟩
              · -- a way there
                refine ⟨va_up I3 191 (va_up (I3 191) j (nI v)), .inr ⟨va_up cm' j (v + 1), sn3, ?_, ⟨fun k hk => ?_, fun k hk => ?_⟩, FM_step hC hv h3 hj s0 t eu (fun k hk => s12 k (q1 k hk)) s2j x3⟩, fun a h1 h2 => by rw [vu_ne h1]; exact fr3 a h1 h2⟩
                · rw [eI2] at cju x1
                  rw [U_242_1]
                  simp (disch := first | omega | assumption | exact rfl) only [U_242_2, U_242_3, U_242_5, U_242_6, U_242_8, XX, QQ, WW, KK, QX, SHs, RRs, Nat.reduceAdd, Nat.reduceMul, Nat.reduceLeDiff, Nat.reduceEqDiff, List.length_cons, List.length_nil, decide_true, decide_false, Bool.true_and, Bool.and_true, Bool.false_and, Bool.and_false, false_and, and_false, Bool.false_eq_true, Bool.true_eq_false, reduceCtorEq, eq_self, if_true, if_false, true_and, and_true, not_true_eq_false, not_false_eq_true, if_pos, if_neg, z_ite_not, false_or, or_false, true_or, or_true, SWs, swk_0, swk_1, c, sj, wt, cju, un, x1]
                · rw [vu_eq]
                  by_cases z : k = j
                  · subst z; rw [vu_eq, vu_eq]; unfold oM; rw [if_neg (by omega), Nat.add_sub_cancel]
                  · rw [vu_ne z, vu_ne z]; exact x2.1 k hk
                · rw [vu_ne (by decide)]; exact x2.2 k hk
          · rw [cd_f.mpr t] at wt
            refine skip (fun q => absurd q t) (fun r H => ?_)
            rw [U_242_1]
            simp (disch := first | omega | assumption | exact rfl) only [U_242_2, U_242_3, U_242_4, U_242_9, XX, QQ, WW, KK, QX, SHs, RRs, Nat.reduceAdd, Nat.reduceMul, Nat.reduceLeDiff, Nat.reduceEqDiff, List.length_cons, List.length_nil, decide_true, decide_false, Bool.true_and, Bool.and_true, Bool.false_and, Bool.and_false, false_and, and_false, Bool.false_eq_true, Bool.true_eq_false, reduceCtorEq, eq_self, if_true, if_false, true_and, and_true, not_true_eq_false, not_false_eq_true, if_pos, if_neg, z_ite_not, false_or, or_false, true_or, or_true, SWs, swk_0, swk_1, c, sj, wt]
            exact H
    obtain ⟨I', h, f⟩ := lp
    refine ⟨I', ?_, f⟩
    have go : ∀ r, Ev X d 242 1 [.ref 177, .int (nI s), .int (nI v), .int (nI 0)] [] (mk I J) r → callF X (d + 1) 242 [.ref 177, .int (nI s), .int (nI v)] (mk I J) = some r := fun r H => by
      refine callF_at (by omega) (by decide) (Nat.le_of_ble_eq_true rfl) (fun d' hd' => ?_)
      obtain rfl : d = d' := by omega
      show Ev X d 242 0 [.ref 177, .int (nI s), .int (nI v), .retAddr 0] [] (mk I J) _
      simp (disch := first | omega | assumption | exact rfl) only [U_242_0, XX, QQ, WW, KK, QX, SHs, RRs, Nat.reduceAdd, Nat.reduceMul, Nat.reduceLeDiff, Nat.reduceEqDiff, List.length_cons, List.length_nil, decide_true, decide_false, Bool.true_and, Bool.and_true, Bool.false_and, Bool.and_false, false_and, and_false, Bool.false_eq_true, Bool.true_eq_false, reduceCtorEq, eq_self, if_true, if_false, true_and, and_true, not_true_eq_false, not_false_eq_true, if_pos, if_neg, z_ite_not, false_or, or_false, true_or, or_true, SWs, swk_0, swk_1]
      exact H
    rcases h with ⟨sn', x1, x2⟩ | ⟨cm', sn', x1, x2⟩
    · exact .inl ⟨sn', go _ x1, x2⟩
    · exact .inr ⟨cm', sn', go _ x1, x2⟩
