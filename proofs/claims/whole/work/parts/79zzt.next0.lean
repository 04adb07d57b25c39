/-! ===== the reference's next token ===== -/
theorem sg_c {c : Nat} (h : sgn c = true) : c = 59 ∨ c = 43 ∨ c = 45 ∨ c = 42 ∨ c = 47 ∨ c = 40 ∨ c = 41 ∨ c = 60 ∨ c = 61 ∨ c = 62 := by
  unfold sgn at h
  simp only [Bool.or_eq_true, decide_eq_true_iff] at h
  omega
theorem sg_n {c : Nat} (h : sgn c = false) : ¬ c = 59 ∧ ¬ c = 43 ∧ ¬ c = 45 ∧ ¬ c = 42 ∧ ¬ c = 47 ∧ ¬ c = 40 ∧ ¬ c = 41 ∧ ¬ c = 60 ∧ ¬ c = 61 ∧ ¬ c = 62 := by
  refine ⟨?_, ?_, ?_, ?_, ?_, ?_, ?_, ?_, ?_, ?_⟩ <;> (intro q; subst q; exact absurd h (by decide))
theorem r_next0 {X : Nat × (Nat → Int32)} {d : Nat} {I : Nat → Nat → Int32} {J : Nat → Nat → Int64} {tp : Nat → Nat} {tl a w p : Nat} (hd : 14 ≤ d) (hT : RTp I tp tl) (h13 : I 177 13 = nI a) (ha : a ≤ tl) (h9 : I 177 9 = nI w) (hw : w < 9) (ep : p = rnE blnk tp tl a) :
    ∃ g, callF X d 168 [.ref 177] (mk I J) = some (none, mk (va_up I 177 g) J) ∧ g 13 = nI (if p < tl then tkN tp tl p else tl) ∧ g 14 = nI (rtk (decide (w < 6)) (tkK tp tl p)) ∧ g 15 = nI p ∧ (p < tl → dgt (tp p) = true → g 16 = nI (tkV tp tl p)) ∧ (∀ k, k ≠ 13 → k ≠ 14 → k ≠ 15 → k ≠ 16 → g k = I 177 k) := by
  have h400 := hT.1
  obtain ⟨d, rfl⟩ : ∃ d', d = d' + 1 := ⟨d - 1, by omega⟩
  obtain ⟨x1, x2, x3, x4⟩ := rnE_s (P := blnk) (tp := tp) (tl := tl) (p := a) ha
  rw [← ep] at x1 x2 x3 x4
  obtain ⟨f, ef⟩ : ∃ f, f = I 177 := ⟨_, rfl⟩
  have RT : ∀ g : Nat → Int32, g 12 = f 12 → RTp (va_up I 177 g) tp tl := fun g hg => by
    obtain ⟨y1, y2, y3⟩ := hT
    exact ⟨y1, by rw [vu_eq, hg, ef]; exact y2, fun i hi => by rw [vu_ne (by decide)]; exact y3 i hi⟩
  have see : ∀ (g : Nat → Int32) k, g 12 = f 12 → k < 2 ^ 30 → callF X d 161 [.ref 177, .int (nI k)] (mk (va_up I 177 g) J) = some (some (.int (if k < tl then nI (tp k) else -1)), mk (va_up I 177 g) J) := fun g k hg hk => r_see (by omega) (RT g hg) hk
  have c256 : ∀ k, k < tl → tp k < 256 := fun k hk => (hT.2.2 k hk).1
  obtain ⟨f3, ef3⟩ : ∃ f3, f3 = va_up (va_up f 13 (nI p)) 15 (nI p) := ⟨_, rfl⟩
  -- the blanks
  have skip : ∀ r, Ev X d 168 3 [.ref 177, .retAddr 0, .retAddr 0] [] (mk (va_up I 177 (va_up f 13 (nI p))) J) r → Ev X d 168 0 [.ref 177, .retAddr 0, .retAddr 0] [] (mk I J) r := fun r H => by
    have lp : ∀ k, k ≤ p → a ≤ k → Ev X d 168 0 [.ref 177, .retAddr 0, .retAddr 0] [] (mk (va_up I 177 (va_up f 13 (nI k))) J) r := by
      refine lpd (n := p) (P := fun k => a ≤ k → Ev X d 168 0 [.ref 177, .retAddr 0, .retAddr 0] [] (mk (va_up I 177 (va_up f 13 (nI k))) J) r) ?_ ?_
      · intro _
        have s1 := see (va_up f 13 (nI p)) p (vu_ne (by decide)) (by omega)
        rw [U_168_0]
        rcases Nat.lt_or_ge p tl with q | q
        · rw [if_pos q] at s1
          have b := x4 q
          have c := c256 p q
          have n32 : ¬ tp p = 32 := fun z => by unfold blnk at b; rw [z] at b; cases b
          have n10 : ¬ tp p = 10 := fun z => by unfold blnk at b; rw [z] at b; cases b
          simp (disch := first | omega | assumption | exact rfl) only [U_168_1, XX, QQ, WW, KK, QX, SHs, RRs, Nat.reduceAdd, Nat.reduceMul, Nat.reduceLeDiff, Nat.reduceEqDiff, List.length_cons, List.length_nil, decide_true, decide_false, Bool.true_and, Bool.and_true, Bool.false_and, Bool.and_false, false_and, and_false, Bool.false_eq_true, Bool.true_eq_false, reduceCtorEq, eq_self, if_true, if_false, true_and, and_true, not_true_eq_false, not_false_eq_true, if_pos, if_neg, z_ite_not, false_or, or_false, true_or, or_true, SWs, swk_0, swk_1, s1, n32, n10]
          exact H
        · rw [if_neg (by omega)] at s1
          have n32 : ¬ (-1 : Int32) = nI 32 := by decide +kernel
          have n10 : ¬ (-1 : Int32) = nI 10 := by decide +kernel
          simp (disch := first | omega | assumption | exact rfl) only [U_168_1, XX, QQ, WW, KK, QX, SHs, RRs, Nat.reduceAdd, Nat.reduceMul, Nat.reduceLeDiff, Nat.reduceEqDiff, List.length_cons, List.length_nil, decide_true, decide_false, Bool.true_and, Bool.and_true, Bool.false_and, Bool.and_false, false_and, and_false, Bool.false_eq_true, Bool.true_eq_false, reduceCtorEq, eq_self, if_true, if_false, true_and, and_true, not_true_eq_false, not_false_eq_true, if_pos, if_neg, z_ite_not, false_or, or_false, true_or, or_true, SWs, swk_0, swk_1, s1, n32, n10]
          exact H
      · intro k hk IH ak
        have IH := IH (by omega)
        have kt : k < tl := by omega
        have s1 := see (va_up f 13 (nI k)) k (vu_ne (by decide)) (by omega)
        rw [if_pos kt] at s1
        have b := x3 k ak hk
        have b2 : tp k = 32 ∨ tp k = 10 := by unfold blnk at b; simpa using b
        rw [U_168_0]
        rcases b2 with z | z
        · rw [z] at s1
          simp (disch := first | omega | assumption | exact rfl) only [U_168_2, XX, QQ, WW, KK, QX, SHs, RRs, Nat.reduceAdd, Nat.reduceMul, Nat.reduceLeDiff, Nat.reduceEqDiff, List.length_cons, List.length_nil, decide_true, decide_false, Bool.true_and, Bool.and_true, Bool.false_and, Bool.and_false, false_and, and_false, Bool.false_eq_true, Bool.true_eq_false, reduceCtorEq, eq_self, if_true, if_false, true_and, and_true, not_true_eq_false, not_false_eq_true, if_pos, if_neg, z_ite_not, false_or, or_false, true_or, or_true, SWs, swk_0, swk_1, s1, vu_vu]
          exact IH
        · rw [z] at s1
          simp (disch := first | omega | assumption | exact rfl) only [U_168_1, U_168_2, XX, QQ, WW, KK, QX, SHs, RRs, Nat.reduceAdd, Nat.reduceMul, Nat.reduceLeDiff, Nat.reduceEqDiff, List.length_cons, List.length_nil, decide_true, decide_false, Bool.true_and, Bool.and_true, Bool.false_and, Bool.and_false, false_and, and_false, Bool.false_eq_true, Bool.true_eq_false, reduceCtorEq, eq_self, if_true, if_false, true_and, and_true, not_true_eq_false, not_false_eq_true, if_pos, if_neg, z_ite_not, false_or, or_false, true_or, or_true, SWs, swk_0, swk_1, s1, vu_vu]
          exact IH
    have st := lp a x1 (Nat.le_refl _)
    rw [show va_up I 177 (va_up f 13 (nI a)) = I by rw [ef, ← h13, vu_id, vu_id]] at st
    exact st
  have done : ∀ g : Nat → Int32, Ev X d 168 3 [.ref 177, .retAddr 0, .retAddr 0] [] (mk (va_up I 177 (va_up f 13 (nI p))) J) (none, mk (va_up I 177 g) J) → callF X (d + 1) 168 [.ref 177] (mk I J) = some (none, mk (va_up I 177 g) J) := fun g H => by
    refine callF_at (by omega) (by decide) (Nat.le_of_ble_eq_true rfl) (fun d' hd' => ?_)
    obtain rfl : d = d' := by omega
    exact skip _ H
  have s3 := see f3 p (by rw [ef3, vu_ne (by decide), vu_ne (by decide)]) (by omega)
  rcases Nat.lt_or_ge p tl with q | q
  rotate_left
  · -- the end
    have pe : p = tl := by omega
    rw [if_neg (by omega)] at s3
    refine ⟨va_up f3 14 (nI 0), done _ ?_, ?_, ?_, ?_, fun h => by omega, fun k k1 k2 k3 k4 => ?_⟩
    · rw [ef3] at s3 ⊢
      simp (disch := first | omega | assumption | exact rfl) only [U_168_3, U_168_4, U_168_38, XX, QQ, WW, KK, QX, SHs, RRs, Nat.reduceAdd, Nat.reduceMul, Nat.reduceLeDiff, Nat.reduceEqDiff, List.length_cons, List.length_nil, decide_true, decide_false, Bool.true_and, Bool.and_true, Bool.false_and, Bool.and_false, false_and, and_false, Bool.false_eq_true, Bool.true_eq_false, reduceCtorEq, eq_self, if_true, if_false, true_and, and_true, not_true_eq_false, not_false_eq_true, if_pos, if_neg, z_ite_not, false_or, or_false, true_or, or_true, SWs, swk_0, swk_1, s3]
    · rw [if_neg (by omega), vu_ne (by decide), ef3, vu_ne (by decide), vu_eq, pe]
    · rw [vu_eq]
      have : tkK tp tl p = 0 := by unfold tkK; rw [if_neg (by omega)]
      rw [this]; rfl
    · rw [vu_ne (by decide), ef3, vu_eq]
    · rw [vu_ne k2, ef3, vu_ne k3, vu_ne k1, ef]
  · rw [if_pos q] at s3
    rw [if_pos q]
    have c0 := c256 p q
    have g13 : f3 13 = nI p := by rw [ef3, vu_ne (by decide), vu_eq]
    have g15 : f3 15 = nI p := by rw [ef3, vu_eq]
    have g12 : f3 12 = f 12 := by rw [ef3, vu_ne (by decide), vu_ne (by decide)]
    have g9 : f3 9 = nI w := by rw [ef3, vu_ne (by decide), vu_ne (by decide), ef]; exact h9
    have gk : ∀ k, k ≠ 13 → k ≠ 15 → f3 k = I 177 k := fun k k1 k2 => by rw [ef3, vu_ne k2, vu_ne k1, ef]
    have l0 := fun M => r_ltr (X := X) (d := d) (M := M) (c := tp p) (by omega) (by omega)
    have d0 := fun M => r_dgt (X := X) (d := d) (M := M) (c := tp p) (by omega) (by omega)
    have nc : ¬ nI (tp p) = -1 := nI_ne (by omega)
    have five : ∀ g : Nat → Int32, Ev X d 168 5 [.ref 177, .int (nI (tp p)), .retAddr 0] [] (mk (va_up I 177 f3) J) (none, mk (va_up I 177 g) J) → Ev X d 168 3 [.ref 177, .retAddr 0, .retAddr 0] [] (mk (va_up I 177 (va_up f 13 (nI p))) J) (none, mk (va_up I 177 g) J) := fun g H => by
      rw [ef3] at s3 H
      simp (disch := first | omega | assumption | exact rfl) only [U_168_3, XX, QQ, WW, KK, QX, SHs, RRs, Nat.reduceAdd, Nat.reduceMul, Nat.reduceLeDiff, Nat.reduceEqDiff, List.length_cons, List.length_nil, decide_true, decide_false, Bool.true_and, Bool.and_true, Bool.false_and, Bool.and_false, false_and, and_false, Bool.false_eq_true, Bool.true_eq_false, reduceCtorEq, eq_self, if_true, if_false, true_and, and_true, not_true_eq_false, not_false_eq_true, if_pos, if_neg, z_ite_not, false_or, or_false, true_or, or_true, SWs, swk_0, swk_1, s3, nc]
      exact H
    cases lt : ltr (tp p) with
    | true =>
      rw [lt] at l0
      obtain ⟨y1, y2, y3, y4⟩ := rnE_s (P := ltr) (tp := tp) (tl := tl) (p := p) (by omega)
      have eN : tkN tp tl p = rnE ltr tp tl p := by unfold tkN; rw [if_pos lt]
      obtain ⟨e, ee⟩ : ∃ e, e = rnE ltr tp tl p := ⟨_, rfl⟩
      have eK : tkK tp tl p = wdK (txt tp p (e - p)) := by unfold tkK; rw [if_pos q, if_pos lt, ee]
      rw [← ee] at y1 y2 y3 y4 eN
      obtain ⟨fe, efe⟩ : ∃ fe, fe = va_up f3 13 (nI e) := ⟨_, rfl⟩
      have e13 : (va_up I 177 fe) 177 13 = nI e := by rw [vu_eq, efe, vu_eq]
      have e15 : (va_up I 177 fe) 177 15 = nI p := by rw [vu_eq, efe, vu_ne (by decide)]; exact g15
      have RTe := RT fe (by rw [efe, vu_ne (by decide)]; exact g12)
      have sw := r_shapeWord (X := X) (d := d) (I := va_up I 177 fe) (J := J) (tp := tp) (tl := tl) (p := p) (e := e) (by omega) RTe e13 e15 y1 y2
      have rw_ := r_ruleWord (X := X) (d := d) (I := va_up I 177 fe) (J := J) (tp := tp) (tl := tl) (p := p) (e := e) (by omega) RTe e13 e15 y1 y2
      have e9 : fe 9 = nI w := by rw [efe, vu_ne (by decide)]; exact g9
      obtain ⟨V, eV⟩ : ∃ V, V = rtk (decide (w < 6)) (tkK tp tl p) := ⟨_, rfl⟩
      refine ⟨va_up fe 14 (nI V), done _ (five _ ?_), ?_, by rw [vu_eq, eV], ?_, fun _ h => absurd h (by rw [(ltr_n lt).1]; decide), fun k k1 k2 k3 k4 => ?_⟩
      · have eight : Ev X d 168 8 [.ref 177, .int (nI (tp p)), .retAddr 0] [] (mk (va_up I 177 fe) J) (none, mk (va_up I 177 (va_up fe 14 (nI V))) J) := by
          by_cases w6 : w < 6
          · rw [← eK, show rtk true (tkK tp tl p) = V by rw [eV, decide_eq_true w6]] at sw
            simp (disch := first | omega | assumption | exact rfl) only [U_168_8, U_168_9, U_168_11, U_168_38, XX, QQ, WW, KK, QX, SHs, RRs, Nat.reduceAdd, Nat.reduceMul, Nat.reduceLeDiff, Nat.reduceEqDiff, List.length_cons, List.length_nil, decide_true, decide_false, Bool.true_and, Bool.and_true, Bool.false_and, Bool.and_false, false_and, and_false, Bool.false_eq_true, Bool.true_eq_false, reduceCtorEq, eq_self, if_true, if_false, true_and, and_true, not_true_eq_false, not_false_eq_true, if_pos, if_neg, z_ite_not, false_or, or_false, true_or, or_true, SWs, swk_0, swk_1, e9, sw, vu_vu]
          · rw [← eK, show rtk false (tkK tp tl p) = V by rw [eV, decide_eq_false w6]] at rw_
            simp (disch := first | omega | assumption | exact rfl) only [U_168_8, U_168_10, U_168_11, U_168_38, XX, QQ, WW, KK, QX, SHs, RRs, Nat.reduceAdd, Nat.reduceMul, Nat.reduceLeDiff, Nat.reduceEqDiff, List.length_cons, List.length_nil, decide_true, decide_false, Bool.true_and, Bool.and_true, Bool.false_and, Bool.and_false, false_and, and_false, Bool.false_eq_true, Bool.true_eq_false, reduceCtorEq, eq_self, if_true, if_false, true_and, and_true, not_true_eq_false, not_false_eq_true, if_pos, if_neg, z_ite_not, false_or, or_false, true_or, or_true, SWs, swk_0, swk_1, e9, rw_, w6, vu_vu]
        have lp : ∀ k, k ≤ e → p ≤ k → Ev X d 168 6 [.ref 177, .int (nI (tp p)), .retAddr 0] [] (mk (va_up I 177 (va_up f3 13 (nI k))) J) (none, mk (va_up I 177 (va_up fe 14 (nI V))) J) := by
          refine lpd (n := e) (P := fun k => p ≤ k → Ev X d 168 6 [.ref 177, .int (nI (tp p)), .retAddr 0] [] (mk (va_up I 177 (va_up f3 13 (nI k))) J) (none, mk (va_up I 177 (va_up fe 14 (nI V))) J)) ?_ ?_
          · intro _
            have s1 := see (va_up f3 13 (nI e)) e (by rw [vu_ne (by decide)]; exact g12) (by omega)
            rw [efe] at eight ⊢
            rw [U_168_6]
            rcases Nat.lt_or_ge e tl with z | z
            · rw [if_pos z] at s1
              have l1 := fun M => r_ltr (X := X) (d := d) (M := M) (c := tp e) (by omega) (by have := c256 e z; omega)
              rw [y4 z] at l1
              simp (disch := first | omega | assumption | exact rfl) only [U_168_6, XX, QQ, WW, KK, QX, SHs, RRs, Nat.reduceAdd, Nat.reduceMul, Nat.reduceLeDiff, Nat.reduceEqDiff, List.length_cons, List.length_nil, decide_true, decide_false, Bool.true_and, Bool.and_true, Bool.false_and, Bool.and_false, false_and, and_false, Bool.false_eq_true, Bool.true_eq_false, reduceCtorEq, eq_self, if_true, if_false, true_and, and_true, not_true_eq_false, not_false_eq_true, if_pos, if_neg, z_ite_not, false_or, or_false, true_or, or_true, SWs, swk_0, swk_1, s1, l1]
              exact eight
            · rw [if_neg (by omega)] at s1
              have l1 := fun M => r_ltr1 (X := X) (d := d) (M := M) (by omega)
              simp (disch := first | omega | assumption | exact rfl) only [U_168_6, XX, QQ, WW, KK, QX, SHs, RRs, Nat.reduceAdd, Nat.reduceMul, Nat.reduceLeDiff, Nat.reduceEqDiff, List.length_cons, List.length_nil, decide_true, decide_false, Bool.true_and, Bool.and_true, Bool.false_and, Bool.and_false, false_and, and_false, Bool.false_eq_true, Bool.true_eq_false, reduceCtorEq, eq_self, if_true, if_false, true_and, and_true, not_true_eq_false, not_false_eq_true, if_pos, if_neg, z_ite_not, false_or, or_false, true_or, or_true, SWs, swk_0, swk_1, s1, l1]
              exact eight
          · intro k hk IH pk
            have IH := IH (by omega)
            have kt : k < tl := by omega
            have s1 := see (va_up f3 13 (nI k)) k (by rw [vu_ne (by decide)]; exact g12) (by omega)
            rw [if_pos kt] at s1
            have l1 := fun M => r_ltr (X := X) (d := d) (M := M) (c := tp k) (by omega) (by have := c256 k kt; omega)
            rw [y3 k pk hk] at l1
            rw [U_168_6]
            simp (disch := first | omega | assumption | exact rfl) only [U_168_7, XX, QQ, WW, KK, QX, SHs, RRs, Nat.reduceAdd, Nat.reduceMul, Nat.reduceLeDiff, Nat.reduceEqDiff, List.length_cons, List.length_nil, decide_true, decide_false, Bool.true_and, Bool.and_true, Bool.false_and, Bool.and_false, false_and, and_false, Bool.false_eq_true, Bool.true_eq_false, reduceCtorEq, eq_self, if_true, if_false, true_and, and_true, not_true_eq_false, not_false_eq_true, if_pos, if_neg, z_ite_not, false_or, or_false, true_or, or_true, SWs, swk_0, swk_1, s1, l1, vu_vu]
            exact IH
        have st := lp p y1 (Nat.le_refl _)
        rw [vu_same g13] at st
        simp (disch := first | omega | assumption | exact rfl) only [U_168_5, XX, QQ, WW, KK, QX, SHs, RRs, Nat.reduceAdd, Nat.reduceMul, Nat.reduceLeDiff, Nat.reduceEqDiff, List.length_cons, List.length_nil, decide_true, decide_false, Bool.true_and, Bool.and_true, Bool.false_and, Bool.and_false, false_and, and_false, Bool.false_eq_true, Bool.true_eq_false, reduceCtorEq, eq_self, if_true, if_false, true_and, and_true, not_true_eq_false, not_false_eq_true, if_pos, if_neg, z_ite_not, false_or, or_false, true_or, or_true, SWs, swk_0, swk_1, l0]
        exact st
      · rw [vu_ne (by decide), efe, vu_eq, eN]
      · rw [vu_ne (by decide), efe, vu_ne (by decide)]; exact g15
      · rw [vu_ne k2, efe, vu_ne k1]; exact gk k k1 k3
    | false =>
      rw [lt] at l0
      cases dt : dgt (tp p) with
      | true =>
        rw [dt] at d0
        obtain ⟨y1, y2, y3, y4⟩ := rnE_s (P := dgt) (tp := tp) (tl := tl) (p := p) (by omega)
        have eN : tkN tp tl p = rnE dgt tp tl p := by unfold tkN; rw [if_neg (by rw [lt]; decide), if_pos dt]
        obtain ⟨e, ee⟩ : ∃ e, e = rnE dgt tp tl p := ⟨_, rfl⟩
        have eK : tkK tp tl p = if e - p ≤ 4 then 2 else 1 := by unfold tkK; rw [if_pos q, if_neg (by rw [lt]; decide), if_pos dt, ee]
        have eVv : tkV tp tl p = nmV tp p (if e - p < 4 then e - p else 4) := by unfold tkV; rw [if_pos ⟨q, dt⟩, ee]
        rw [← ee] at y1 y2 y3 y4 eN
        obtain ⟨V, eV⟩ : ∃ V, V = rtk (decide (w < 6)) (tkK tp tl p) := ⟨_, rfl⟩
        obtain ⟨mm, emm⟩ : ∃ mm : Nat → Nat, mm = fun k => nmV tp p (if k - p < 4 then k - p else 4) := ⟨_, rfl⟩
        have mmb : ∀ k, p ≤ k → k ≤ e → mm k < 10000 := fun k h1 h2 => by
          rw [emm]; dsimp only
          refine Nat.lt_of_lt_of_le (nmV_le _ (fun j hj => y3 (p + j) (by omega) (by split at hj <;> omega))) ?_
          exact Nat.le_trans (Nat.pow_le_pow_right (by decide) (by split <;> omega)) (by decide : 10 ^ 4 ≤ 10000)
        refine ⟨va_up (va_up (va_up f3 16 (nI (mm e))) 13 (nI e)) 14 (nI V), done _ (five _ ?_), ?_, by rw [vu_eq, eV], ?_, fun _ _ => (by rw [vu_ne (by decide), vu_ne (by decide), vu_eq, eVv, emm]), fun k k1 k2 k3 k4 => ?_⟩
        · have vv : V = if e - p < 5 then 2 else 1 := by
            rw [eV, eK]
            by_cases z : e - p ≤ 4
            · rw [if_pos z, if_pos (by omega)]; rfl
            · rw [if_neg z, if_neg (by omega)]; rfl
          have lp : ∀ k, k ≤ e → p ≤ k → Ev X d 168 14 [.ref 177, .int (nI (tp p)), .retAddr 0] [] (mk (va_up I 177 (va_up (va_up f3 16 (nI (mm k))) 13 (nI k))) J) (none, mk (va_up I 177 (va_up (va_up (va_up f3 16 (nI (mm e))) 13 (nI e)) 14 (nI V))) J) := by
            refine lpd (n := e) (P := fun k => p ≤ k → Ev X d 168 14 [.ref 177, .int (nI (tp p)), .retAddr 0] [] (mk (va_up I 177 (va_up (va_up f3 16 (nI (mm k))) 13 (nI k))) J) (none, mk (va_up I 177 (va_up (va_up (va_up f3 16 (nI (mm e))) 13 (nI e)) 14 (nI V))) J)) ?_ ?_
            · intro _
              have s1 := see (va_up (va_up f3 16 (nI (mm e))) 13 (nI e)) e (by rw [vu_ne (by decide), vu_ne (by decide)]; exact g12) (by omega)
              have tail : Ev X d 168 18 [.ref 177, .int (nI (tp p)), .retAddr 0] [] (mk (va_up I 177 (va_up (va_up f3 16 (nI (mm e))) 13 (nI e))) J) (none, mk (va_up I 177 (va_up (va_up (va_up f3 16 (nI (mm e))) 13 (nI e)) 14 (nI V))) J) := by
                rw [vv]
                by_cases z : e - p < 5
                · rw [if_pos z]
                  simp (disch := first | omega | assumption | exact rfl) only [U_168_18, U_168_19, U_168_21, U_168_38, XX, QQ, WW, KK, QX, SHs, RRs, Nat.reduceAdd, Nat.reduceMul, Nat.reduceLeDiff, Nat.reduceEqDiff, List.length_cons, List.length_nil, decide_true, decide_false, Bool.true_and, Bool.and_true, Bool.false_and, Bool.and_false, false_and, and_false, Bool.false_eq_true, Bool.true_eq_false, reduceCtorEq, eq_self, if_true, if_false, true_and, and_true, not_true_eq_false, not_false_eq_true, if_pos, if_neg, z_ite_not, false_or, or_false, true_or, or_true, SWs, swk_0, swk_1, g15, vu_vu]
                · rw [if_neg z]
                  simp (disch := first | omega | assumption | exact rfl) only [U_168_18, U_168_20, U_168_21, U_168_38, XX, QQ, WW, KK, QX, SHs, RRs, Nat.reduceAdd, Nat.reduceMul, Nat.reduceLeDiff, Nat.reduceEqDiff, List.length_cons, List.length_nil, decide_true, decide_false, Bool.true_and, Bool.and_true, Bool.false_and, Bool.and_false, false_and, and_false, Bool.false_eq_true, Bool.true_eq_false, reduceCtorEq, eq_self, if_true, if_false, true_and, and_true, not_true_eq_false, not_false_eq_true, if_pos, if_neg, z_ite_not, false_or, or_false, true_or, or_true, SWs, swk_0, swk_1, g15, z, vu_vu]
              rw [U_168_14]
              rcases Nat.lt_or_ge e tl with z | z
              · rw [if_pos z] at s1
                have l1 := fun M => r_dgt (X := X) (d := d) (M := M) (c := tp e) (by omega) (by have := c256 e z; omega)
                rw [y4 z] at l1
                simp (disch := first | omega | assumption | exact rfl) only [U_168_14, XX, QQ, WW, KK, QX, SHs, RRs, Nat.reduceAdd, Nat.reduceMul, Nat.reduceLeDiff, Nat.reduceEqDiff, List.length_cons, List.length_nil, decide_true, decide_false, Bool.true_and, Bool.and_true, Bool.false_and, Bool.and_false, false_and, and_false, Bool.false_eq_true, Bool.true_eq_false, reduceCtorEq, eq_self, if_true, if_false, true_and, and_true, not_true_eq_false, not_false_eq_true, if_pos, if_neg, z_ite_not, false_or, or_false, true_or, or_true, SWs, swk_0, swk_1, s1, l1]
                exact tail
              · rw [if_neg (by omega)] at s1
                have l1 := fun M => r_dgt1 (X := X) (d := d) (M := M) (by omega)
                simp (disch := first | omega | assumption | exact rfl) only [U_168_14, XX, QQ, WW, KK, QX, SHs, RRs, Nat.reduceAdd, Nat.reduceMul, Nat.reduceLeDiff, Nat.reduceEqDiff, List.length_cons, List.length_nil, decide_true, decide_false, Bool.true_and, Bool.and_true, Bool.false_and, Bool.and_false, false_and, and_false, Bool.false_eq_true, Bool.true_eq_false, reduceCtorEq, eq_self, if_true, if_false, true_and, and_true, not_true_eq_false, not_false_eq_true, if_pos, if_neg, z_ite_not, false_or, or_false, true_or, or_true, SWs, swk_0, swk_1, s1, l1]
                exact tail
            · intro k hk IH pk
              have IH := IH (by omega)
              have kt : k < tl := by omega
              have s1 := see (va_up (va_up f3 16 (nI (mm k))) 13 (nI k)) k (by rw [vu_ne (by decide), vu_ne (by decide)]; exact g12) (by omega)
              rw [if_pos kt] at s1
              have l1 := fun M => r_dgt (X := X) (d := d) (M := M) (c := tp k) (by omega) (by have := c256 k kt; omega)
              have dk := y3 k pk hk
              rw [dk] at l1
              have mb := mmb k pk (by omega)
              unfold dgt at dk
              rw [Bool.and_eq_true, decide_eq_true_iff, decide_eq_true_iff] at dk
              rw [U_168_14]
              by_cases z : k < p + 4
              · have es : mm (k + 1) = 10 * mm k + tp k - 48 := by
                  rw [emm]; dsimp only
                  obtain ⟨j, rfl⟩ : ∃ j, k = p + j := ⟨k - p, by omega⟩
                  rw [show p + j + 1 - p = j + 1 by omega, show p + j - p = j by omega]
                  rw [if_pos (by omega : j < 4)]
                  have : (if j + 1 < 4 then j + 1 else 4) = j + 1 := by split <;> omega
                  rw [this, nmV]; omega
                rw [es] at IH
                obtain ⟨v, ev⟩ : ∃ v, v = mm k := ⟨_, rfl⟩
                rw [← ev] at mb s1 IH ⊢
                have e2 : ∀ y : Int32, va_up (va_up (va_up (va_up f3 16 (nI v)) 13 (nI k)) 16 y) 13 (nI (k + 1)) = va_up (va_up f3 16 y) 13 (nI (k + 1)) := fun y => by
                  funext j
                  by_cases j1 : j = 13
                  · subst j1; rw [vu_eq, vu_eq]
                  · rw [vu_ne j1, vu_ne j1]
                    by_cases j2 : j = 16
                    · subst j2; rw [vu_eq, vu_eq]
                    · rw [vu_ne j2, vu_ne j1, vu_ne j2, vu_ne j2]
                simp (disch := first | omega | assumption | exact rfl) only [U_168_15, U_168_16, U_168_17, XX, QQ, WW, KK, QX, SHs, RRs, Nat.reduceAdd, Nat.reduceMul, Nat.reduceLeDiff, Nat.reduceEqDiff, List.length_cons, List.length_nil, decide_true, decide_false, Bool.true_and, Bool.and_true, Bool.false_and, Bool.and_false, false_and, and_false, Bool.false_eq_true, Bool.true_eq_false, reduceCtorEq, eq_self, if_true, if_false, true_and, and_true, not_true_eq_false, not_false_eq_true, if_pos, if_neg, z_ite_not, false_or, or_false, true_or, or_true, SWs, swk_0, swk_1, s1, l1, g15, vu_vu, e2]
                exact IH
              · have es : mm (k + 1) = mm k := by
                  rw [emm]; dsimp only
                  rw [if_neg (by omega), if_neg (by omega)]
                rw [es] at IH
                simp (disch := first | omega | assumption | exact rfl) only [U_168_15, U_168_17, XX, QQ, WW, KK, QX, SHs, RRs, Nat.reduceAdd, Nat.reduceMul, Nat.reduceLeDiff, Nat.reduceEqDiff, List.length_cons, List.length_nil, decide_true, decide_false, Bool.true_and, Bool.and_true, Bool.false_and, Bool.and_false, false_and, and_false, Bool.false_eq_true, Bool.true_eq_false, reduceCtorEq, eq_self, if_true, if_false, true_and, and_true, not_true_eq_false, not_false_eq_true, if_pos, if_neg, z_ite_not, false_or, or_false, true_or, or_true, SWs, swk_0, swk_1, s1, l1, g15, z, vu_vu]
                exact IH
          have st := lp p y1 (Nat.le_refl _)
          have m0 : mm p = 0 := by rw [emm]; dsimp only; rw [Nat.sub_self, if_pos (by decide)]; rfl
          have sw : va_up (va_up f3 16 (nI 0)) 13 (nI p) = va_up f3 16 (nI 0) := vu_same (by rw [vu_ne (by decide)]; exact g13)
          rw [m0, sw] at st
          simp (disch := first | omega | assumption | exact rfl) only [U_168_5, U_168_12, U_168_13, XX, QQ, WW, KK, QX, SHs, RRs, Nat.reduceAdd, Nat.reduceMul, Nat.reduceLeDiff, Nat.reduceEqDiff, List.length_cons, List.length_nil, decide_true, decide_false, Bool.true_and, Bool.and_true, Bool.false_and, Bool.and_false, false_and, and_false, Bool.false_eq_true, Bool.true_eq_false, reduceCtorEq, eq_self, if_true, if_false, true_and, and_true, not_true_eq_false, not_false_eq_true, if_pos, if_neg, z_ite_not, false_or, or_false, true_or, or_true, SWs, swk_0, swk_1, l0, d0, vu_vu]
          exact st
        · rw [vu_ne (by decide), vu_eq, eN]
        · rw [vu_ne (by decide), vu_ne (by decide), vu_ne (by decide)]; exact g15
        · rw [vu_ne k2, vu_ne k1, vu_ne k4]; exact gk k k1 k3
      | false =>
        rw [dt] at d0
        have eN : tkN tp tl p = p + 1 := by unfold tkN; rw [if_neg (by rw [lt]; decide), if_neg (by rw [dt]; decide)]
        have eK : tkK tp tl p = if sgn (tp p) = true then tp p else 1 := by unfold tkK; rw [if_pos q, if_neg (by rw [lt]; decide), if_neg (by rw [dt]; decide)]
        obtain ⟨V, eV⟩ : ∃ V, V = rtk (decide (w < 6)) (tkK tp tl p) := ⟨_, rfl⟩
        refine ⟨va_up (va_up f3 13 (nI (p + 1))) 14 (nI V), done _ (five _ ?_), ?_, by rw [vu_eq, eV], ?_, fun _ h => (by cases h), fun k k1 k2 k3 k4 => ?_⟩
        · obtain ⟨c, ec⟩ : ∃ c, c = tp p := ⟨_, rfl⟩
          rw [← ec] at l0 d0 c0 eK ⊢
          cases sg : sgn c with
          | true =>
            rw [sg, if_pos rfl] at eK
            have b : 3 ≤ c ∧ c < 256 := by have := sg_c sg; omega
            have vv : V = 100 + c := by rw [eV, eK]; unfold rtk; rw [if_neg (by omega), if_pos (by omega)]
            rw [vv]
            rcases sg_c sg with z | z | z | z | z | z | z | z | z | z <;> subst z
            · simp (disch := first | omega | assumption | exact rfl) only [U_168_5, U_168_12, U_168_22, U_168_32, U_168_34, U_168_35, U_168_37, U_168_38, XX, QQ, WW, KK, QX, SHs, RRs, Nat.reduceAdd, Nat.reduceMul, Nat.reduceLeDiff, Nat.reduceEqDiff, List.length_cons, List.length_nil, decide_true, decide_false, Bool.true_and, Bool.and_true, Bool.false_and, Bool.and_false, false_and, and_false, Bool.false_eq_true, Bool.true_eq_false, reduceCtorEq, eq_self, if_true, if_false, true_and, and_true, not_true_eq_false, not_false_eq_true, if_pos, if_neg, z_ite_not, false_or, or_false, true_or, or_true, SWs, swk_0, swk_1, l0, d0, g13, vu_vu]
            · simp (disch := first | omega | assumption | exact rfl) only [U_168_5, U_168_12, U_168_22, U_168_23, U_168_32, U_168_34, U_168_35, U_168_37, U_168_38, XX, QQ, WW, KK, QX, SHs, RRs, Nat.reduceAdd, Nat.reduceMul, Nat.reduceLeDiff, Nat.reduceEqDiff, List.length_cons, List.length_nil, decide_true, decide_false, Bool.true_and, Bool.and_true, Bool.false_and, Bool.and_false, false_and, and_false, Bool.false_eq_true, Bool.true_eq_false, reduceCtorEq, eq_self, if_true, if_false, true_and, and_true, not_true_eq_false, not_false_eq_true, if_pos, if_neg, z_ite_not, false_or, or_false, true_or, or_true, SWs, swk_0, swk_1, l0, d0, g13, vu_vu]
            · simp (disch := first | omega | assumption | exact rfl) only [U_168_5, U_168_12, U_168_22, U_168_23, U_168_24, U_168_32, U_168_34, U_168_35, U_168_37, U_168_38, XX, QQ, WW, KK, QX, SHs, RRs, Nat.reduceAdd, Nat.reduceMul, Nat.reduceLeDiff, Nat.reduceEqDiff, List.length_cons, List.length_nil, decide_true, decide_false, Bool.true_and, Bool.and_true, Bool.false_and, Bool.and_false, false_and, and_false, Bool.false_eq_true, Bool.true_eq_false, reduceCtorEq, eq_self, if_true, if_false, true_and, and_true, not_true_eq_false, not_false_eq_true, if_pos, if_neg, z_ite_not, false_or, or_false, true_or, or_true, SWs, swk_0, swk_1, l0, d0, g13, vu_vu]
            · simp (disch := first | omega | assumption | exact rfl) only [U_168_5, U_168_12, U_168_22, U_168_23, U_168_24, U_168_25, U_168_32, U_168_34, U_168_35, U_168_37, U_168_38, XX, QQ, WW, KK, QX, SHs, RRs, Nat.reduceAdd, Nat.reduceMul, Nat.reduceLeDiff, Nat.reduceEqDiff, List.length_cons, List.length_nil, decide_true, decide_false, Bool.true_and, Bool.and_true, Bool.false_and, Bool.and_false, false_and, and_false, Bool.false_eq_true, Bool.true_eq_false, reduceCtorEq, eq_self, if_true, if_false, true_and, and_true, not_true_eq_false, not_false_eq_true, if_pos, if_neg, z_ite_not, false_or, or_false, true_or, or_true, SWs, swk_0, swk_1, l0, d0, g13, vu_vu]
            · simp (disch := first | omega | assumption | exact rfl) only [U_168_5, U_168_12, U_168_22, U_168_23, U_168_24, U_168_25, U_168_26, U_168_32, U_168_34, U_168_35, U_168_37, U_168_38, XX, QQ, WW, KK, QX, SHs, RRs, Nat.reduceAdd, Nat.reduceMul, Nat.reduceLeDiff, Nat.reduceEqDiff, List.length_cons, List.length_nil, decide_true, decide_false, Bool.true_and, Bool.and_true, Bool.false_and, Bool.and_false, false_and, and_false, Bool.false_eq_true, Bool.true_eq_false, reduceCtorEq, eq_self, if_true, if_false, true_and, and_true, not_true_eq_false, not_false_eq_true, if_pos, if_neg, z_ite_not, false_or, or_false, true_or, or_true, SWs, swk_0, swk_1, l0, d0, g13, vu_vu]
            · simp (disch := first | omega | assumption | exact rfl) only [U_168_5, U_168_12, U_168_22, U_168_23, U_168_24, U_168_25, U_168_26, U_168_27, U_168_32, U_168_34, U_168_35, U_168_37, U_168_38, XX, QQ, WW, KK, QX, SHs, RRs, Nat.reduceAdd, Nat.reduceMul, Nat.reduceLeDiff, Nat.reduceEqDiff, List.length_cons, List.length_nil, decide_true, decide_false, Bool.true_and, Bool.and_true, Bool.false_and, Bool.and_false, false_and, and_false, Bool.false_eq_true, Bool.true_eq_false, reduceCtorEq, eq_self, if_true, if_false, true_and, and_true, not_true_eq_false, not_false_eq_true, if_pos, if_neg, z_ite_not, false_or, or_false, true_or, or_true, SWs, swk_0, swk_1, l0, d0, g13, vu_vu]
            · simp (disch := first | omega | assumption | exact rfl) only [U_168_5, U_168_12, U_168_22, U_168_23, U_168_24, U_168_25, U_168_26, U_168_27, U_168_28, U_168_32, U_168_34, U_168_35, U_168_37, U_168_38, XX, QQ, WW, KK, QX, SHs, RRs, Nat.reduceAdd, Nat.reduceMul, Nat.reduceLeDiff, Nat.reduceEqDiff, List.length_cons, List.length_nil, decide_true, decide_false, Bool.true_and, Bool.and_true, Bool.false_and, Bool.and_false, false_and, and_false, Bool.false_eq_true, Bool.true_eq_false, reduceCtorEq, eq_self, if_true, if_false, true_and, and_true, not_true_eq_false, not_false_eq_true, if_pos, if_neg, z_ite_not, false_or, or_false, true_or, or_true, SWs, swk_0, swk_1, l0, d0, g13, vu_vu]
            · simp (disch := first | omega | assumption | exact rfl) only [U_168_5, U_168_12, U_168_22, U_168_23, U_168_24, U_168_25, U_168_26, U_168_27, U_168_28, U_168_29, U_168_32, U_168_34, U_168_35, U_168_37, U_168_38, XX, QQ, WW, KK, QX, SHs, RRs, Nat.reduceAdd, Nat.reduceMul, Nat.reduceLeDiff, Nat.reduceEqDiff, List.length_cons, List.length_nil, decide_true, decide_false, Bool.true_and, Bool.and_true, Bool.false_and, Bool.and_false, false_and, and_false, Bool.false_eq_true, Bool.true_eq_false, reduceCtorEq, eq_self, if_true, if_false, true_and, and_true, not_true_eq_false, not_false_eq_true, if_pos, if_neg, z_ite_not, false_or, or_false, true_or, or_true, SWs, swk_0, swk_1, l0, d0, g13, vu_vu]
            · simp (disch := first | omega | assumption | exact rfl) only [U_168_5, U_168_12, U_168_22, U_168_23, U_168_24, U_168_25, U_168_26, U_168_27, U_168_28, U_168_29, U_168_30, U_168_32, U_168_34, U_168_35, U_168_37, U_168_38, XX, QQ, WW, KK, QX, SHs, RRs, Nat.reduceAdd, Nat.reduceMul, Nat.reduceLeDiff, Nat.reduceEqDiff, List.length_cons, List.length_nil, decide_true, decide_false, Bool.true_and, Bool.and_true, Bool.false_and, Bool.and_false, false_and, and_false, Bool.false_eq_true, Bool.true_eq_false, reduceCtorEq, eq_self, if_true, if_false, true_and, and_true, not_true_eq_false, not_false_eq_true, if_pos, if_neg, z_ite_not, false_or, or_false, true_or, or_true, SWs, swk_0, swk_1, l0, d0, g13, vu_vu]
            · simp (disch := first | omega | assumption | exact rfl) only [U_168_5, U_168_12, U_168_22, U_168_23, U_168_24, U_168_25, U_168_26, U_168_27, U_168_28, U_168_29, U_168_30, U_168_31, U_168_32, U_168_34, U_168_35, U_168_37, U_168_38, XX, QQ, WW, KK, QX, SHs, RRs, Nat.reduceAdd, Nat.reduceMul, Nat.reduceLeDiff, Nat.reduceEqDiff, List.length_cons, List.length_nil, decide_true, decide_false, Bool.true_and, Bool.and_true, Bool.false_and, Bool.and_false, false_and, and_false, Bool.false_eq_true, Bool.true_eq_false, reduceCtorEq, eq_self, if_true, if_false, true_and, and_true, not_true_eq_false, not_false_eq_true, if_pos, if_neg, z_ite_not, false_or, or_false, true_or, or_true, SWs, swk_0, swk_1, l0, d0, g13, vu_vu]
          | false =>
            rw [sg, if_neg (by decide)] at eK
            have vv : V = 1 := by rw [eV, eK]; rfl
            rw [vv]
            obtain ⟨n1, n2, n3, n4, n5, n6, n7, n8, n9, n10⟩ := sg_n sg
            simp (disch := first | omega | assumption | exact rfl) only [U_168_5, U_168_12, U_168_22, U_168_23, U_168_24, U_168_25, U_168_26, U_168_27, U_168_28, U_168_29, U_168_30, U_168_31, U_168_33, U_168_34, U_168_36, U_168_37, U_168_38, XX, QQ, WW, KK, QX, SHs, RRs, Nat.reduceAdd, Nat.reduceMul, Nat.reduceLeDiff, Nat.reduceEqDiff, List.length_cons, List.length_nil, decide_true, decide_false, Bool.true_and, Bool.and_true, Bool.false_and, Bool.and_false, false_and, and_false, Bool.false_eq_true, Bool.true_eq_false, reduceCtorEq, eq_self, if_true, if_false, true_and, and_true, not_true_eq_false, not_false_eq_true, if_pos, if_neg, z_ite_not, false_or, or_false, true_or, or_true, SWs, swk_0, swk_1, l0, d0, g13, vu_vu, n1, n2, n3, n4, n5, n6, n7, n8, n9, n10]
        · rw [vu_ne (by decide), vu_eq, eN]
        · rw [vu_ne (by decide), vu_ne (by decide)]; exact g15
        · rw [vu_ne k2, vu_ne k1]; exact gk k k1 k3
