/-! ===== tokens: the class cuts the tape, all of it ===== -/
theorem fnd_s : ∀ c, c < 256 → (sgn c = true ∧ ¬ fnd (nI c) (strT 0) 0 < 0) ∨ (sgn c = false ∧ fnd (nI c) (strT 0) 0 < 0) := by decide +kernel
theorem i2c_s : ∀ c, c < 256 → ((nI c).toUInt32 % 65536).toInt32 = nI c := by decide +kernel
theorem p1002 {X : Nat × (Nat → Int32)} {d : Nat} {M : Mem} {c : Int32} (hd : 9 ≤ d) : callF X d 1002 [.float (UInt32.ofNat 0), .int c] M = some (some (.int (fnd c (strT 0) 0)), M) := by
  obtain ⟨d, rfl⟩ : ∃ d', d = d' + 1 := ⟨d - 1, by omega⟩
  show (if 1002 < 1000 then _ else if 8 ≤ d then prim 1002 [.float (UInt32.ofNat 0), .int c] M else none) = _
  rw [if_neg (by omega), if_pos (by omega)]
  rfl
theorem ltr_n {c : Nat} (h : ltr c = true) : dgt c = false ∧ blnk c = false ∧ c ≠ 32 := by
  unfold ltr at h
  unfold dgt blnk
  simp only [Bool.or_eq_true, Bool.and_eq_true, decide_eq_true_iff] at h
  refine ⟨?_, ?_, by omega⟩
  · rw [Bool.and_eq_false_iff, decide_eq_false_iff_not, decide_eq_false_iff_not]; omega
  · rw [Bool.or_eq_false_iff, decide_eq_false_iff_not, decide_eq_false_iff_not]; omega
theorem dgt_n {c : Nat} (h : dgt c = true) : ltr c = false ∧ blnk c = false := by
  unfold dgt at h
  unfold ltr blnk
  simp only [Bool.and_eq_true, decide_eq_true_iff] at h
  constructor
  · rw [Bool.or_eq_false_iff, Bool.and_eq_false_iff, Bool.and_eq_false_iff, decide_eq_false_iff_not, decide_eq_false_iff_not, decide_eq_false_iff_not, decide_eq_false_iff_not]; omega
  · rw [Bool.or_eq_false_iff, decide_eq_false_iff_not, decide_eq_false_iff_not]; omega
theorem tkT_is {tp : Nat → Nat} {tl m : Nat} (h1 : ∀ j, j < m → tpo tp tl j < tl) (h2 : tpo tp tl m = tl) : tkT tp tl = m := by
  obtain ⟨a, b, c⟩ := tkT_s (tp := tp) (tl := tl)
  rcases Nat.lt_trichotomy (tkT tp tl) m with q | q | q
  · have := h1 _ q; omega
  · exact q
  · have := c m q; omega
theorem rnE_b {tp : Nat → Nat} {tl i : Nat} (hi : i < tl) (h : blnk (tp i) = true) : rnE blnk tp tl (i + 1) = rnE blnk tp tl i := by
  obtain ⟨a, b, c, e⟩ := rnE_s (P := blnk) (tp := tp) (tl := tl) (p := i + 1) (by omega)
  exact (rnE_is (by omega) b (fun k h1 h2 => by
    by_cases z : k = i
    · subst z; exact h
    · exact c k (by omega) h2) e).symm
theorem rnE_0 {P : Nat → Bool} {tp : Nat → Nat} {tl i : Nat} (hi : i ≤ tl) (h : i < tl → P (tp i) = false) : rnE P tp tl i = i := rnE_is (Nat.le_refl _) hi (fun k h1 h2 => by omega) h
theorem c_next0 {X : Nat × (Nat → Int32)} {d : Nat} {I : Nat → Nat → Int32} {J : Nat → Nat → Int64} {tp : Nat → Nat} {tl : Nat} (hd : 1 ≤ d) (h3 : I 125 3 = nI (tkT tp tl + 1)) (hl : tl ≤ 400) (hR : ROWc I tp tl (tkT tp tl + 1)) (h4 : I 125 4 = -1) : ∃ I', callF X d 91 [.ref 125] (mk I J) = some (none, mk I' J) ∧ CURc I' tp tl 0 ∧ (∀ a, a ≠ 125 → I' a = I a) ∧ I' 125 3 = nI (tkT tp tl + 1) := by
  have tT := (tkT_s (tp := tp) (tl := tl)).1
  obtain ⟨T, eT⟩ : ∃ T, T = tkT tp tl := ⟨_, rfl⟩
  rw [← eT] at h3 hR tT ⊢
  obtain ⟨x1, x2, x3⟩ := hR 0 (by omega)
  have e0 : (-1 : Int32) + nI 1 = nI 0 := by decide +kernel
  refine ⟨va_up I 125 (va_up (va_up (va_up (va_up (I 125) 4 (nI 0)) 5 (I 126 0)) 6 (I 127 0)) 7 (I 128 0)), ?_, ⟨?_, ?_, ?_, ?_⟩, fun a ha => vu_ne ha, ?_⟩
  · refine callF_at (by omega) (by decide) (Nat.le_of_ble_eq_true rfl) (fun d _ => ?_)
    show Ev X d 91 0 [.ref 125] [] ( mk I J) _
    have z1 : 0 < T + 1 := by omega
    simp (disch := first | omega | assumption | exact rfl) only [U_91_0, U_91_1, U_91_2, U_91_3, U_91_4, U_91_5, XX, QQ, WW, KK, QX, SHs, RRs, Nat.reduceAdd, Nat.reduceMul, Nat.reduceLeDiff, Nat.reduceEqDiff, List.length_cons, List.length_nil, decide_true, decide_false, Bool.true_and, Bool.and_true, Bool.false_and, Bool.and_false, false_and, and_false, Bool.false_eq_true, Bool.true_eq_false, reduceCtorEq, eq_self, if_true, if_false, true_and, and_true, not_true_eq_false, not_false_eq_true, if_pos, if_neg, z_ite_not, false_or, or_false, true_or, or_true, SWs, swk_0, swk_1, h4, h3, e0]
  · rw [vu_eq, vu_ne (by decide), vu_ne (by decide), vu_ne (by decide), vu_eq]
  · rw [vu_eq, vu_ne (by decide), vu_ne (by decide), vu_eq]; exact x1
  · rw [vu_eq, vu_ne (by decide), vu_eq]; exact x2
  · rw [vu_eq, vu_eq]; exact x3
  · rw [vu_eq, vu_ne (by decide), vu_ne (by decide), vu_ne (by decide), vu_ne (by decide)]; exact h3
theorem c_cut {X : Nat × (Nat → Int32)} {d : Nat} {I : Nat → Nat → Int32} {J : Nat → Nat → Int64} {tp : Nat → Nat} {tl : Nat} (hd : 12 ≤ d) (hT : TPc I tp tl) : ∃ I', callF X d 84 [.ref 125, .ref 123, .int (nI tl)] (mk I J) = some (none, mk I' J) ∧ I' 125 3 = nI (tkT tp tl + 1) ∧ ROWc I' tp tl (tkT tp tl + 1) ∧ CURc I' tp tl 0 ∧ (∀ a, a < 125 ∨ 128 < a → I' a = I a) := by
  have h400 := hT.1
  obtain ⟨d, rfl⟩ : ∃ d', d = d' + 1 := ⟨d - 1, by omega⟩
  -- one token more in the rows
  have addT : ∀ (I1 : Nat → Nat → Int32) m, m ≤ 400 → I1 125 3 = nI m → ROWc I1 tp tl m → (∀ a, a < 125 ∨ 128 < a → I1 a = I a) → ∃ I2, callF X d 90 [.ref 125, .int (nI (tkK tp tl (tpo tp tl m))), .int (nI (tpo tp tl m)), .int (nI (tkV tp tl (tpo tp tl m)))] (mk I1 J) = some (none, mk I2 J) ∧ I2 125 3 = nI (m + 1) ∧ ROWc I2 tp tl (m + 1) ∧ (∀ a, a < 125 ∨ 128 < a → I2 a = I a) := fun I1 m hm h3 hR fr => by
    have ad := c_add (X := X) (d := d) (I := I1) (J := J) (c := m) (k := tkK tp tl (tpo tp tl m)) (p := tpo tp tl m) (v := tkV tp tl (tpo tp tl m)) (by omega) h3 hm
    refine ⟨_, ad, by rw [vu_eq, vu_eq], fun j hj2 => ?_, fun a ha => ?_⟩
    · by_cases z : j = m
      · subst z
        refine ⟨?_, ?_, ?_⟩
        · rw [vu_ne (by decide), vu_ne (by decide), vu_ne (by decide), vu_eq, vu_eq]
        · rw [vu_ne (by decide), vu_ne (by decide), vu_eq, vu_eq]
        · rw [vu_ne (by decide), vu_eq, vu_eq]
      · obtain ⟨x1, x2, x3⟩ := hR j (by omega)
        refine ⟨?_, ?_, ?_⟩
        · rw [vu_ne (by decide), vu_ne (by decide), vu_ne (by decide), vu_eq, vu_ne z]; exact x1
        · rw [vu_ne (by decide), vu_ne (by decide), vu_eq, vu_ne z]; exact x2
        · rw [vu_ne (by decide), vu_eq, vu_ne z]; exact x3
    · rw [vu_ne (by omega), vu_ne (by omega), vu_ne (by omega), vu_ne (by omega)]; exact fr a ha
  have fin : ∀ m (I1 : Nat → Nat → Int32) (wd : Int32) (u5 : Value), tpo tp tl m = tl → m ≤ tl → (∀ j, j < m → tpo tp tl j < tl) → I1 125 3 = nI m → ROWc I1 tp tl m → (∀ a, a < 125 ∨ 128 < a → I1 a = I a) → ∃ I', Ev X d 84 1 [.ref 125, .ref 123, .int (nI tl), .int wd, .int (nI tl), u5] [] (mk I1 J) (none, mk I' J) ∧ I' 125 3 = nI (tkT tp tl + 1) ∧ ROWc I' tp tl (tkT tp tl + 1) ∧ CURc I' tp tl 0 ∧ (∀ a, a < 125 ∨ 128 < a → I' a = I a) := fun m I1 wd u5 hr hm hj h3 hR fr => by
    have eT := tkT_is hj hr
    obtain ⟨I2, a1, a2, a3, a4⟩ := addT I1 m (by omega) h3 hR fr
    have k0 : tkK tp tl tl = 0 := by unfold tkK; rw [if_neg (by omega)]
    have v0 : tkV tp tl tl = 0 := by unfold tkV; rw [if_neg (by omega)]
    rw [hr, k0, v0] at a1
    rw [← eT] at a2 a3
    obtain ⟨I3, e3⟩ : ∃ I3, I3 = va_up I2 125 (va_up (I2 125) 4 (-1)) := ⟨_, rfl⟩
    have f3 : ∀ a, a ≠ 125 → I3 a = I2 a := fun a ha => by rw [e3, vu_ne ha]
    obtain ⟨I', n1, n2, n3, n4⟩ := c_next0 (X := X) (d := d) (I := I3) (J := J) (tp := tp) (tl := tl) (by omega) (by rw [e3, vu_eq, vu_ne (by decide)]; exact a2) h400 (fun j hj2 => by rw [f3 _ (by decide), f3 _ (by decide), f3 _ (by decide)]; exact a3 j hj2) (by rw [e3, vu_eq, vu_eq])
    refine ⟨I', ?_, n4, fun j hj2 => by rw [n3 _ (by decide), n3 _ (by decide), n3 _ (by decide), f3 _ (by decide), f3 _ (by decide), f3 _ (by decide)]; exact a3 j hj2, n2, fun a ha => by rw [n3 a (by omega), f3 a (by omega)]; exact a4 a ha⟩
    rw [e3] at n1
    rw [U_84_1]
    simp (disch := first | omega | assumption | exact rfl) only [U_84_17, XX, QQ, WW, KK, QX, SHs, RRs, Nat.reduceAdd, Nat.reduceMul, Nat.reduceLeDiff, Nat.reduceEqDiff, List.length_cons, List.length_nil, decide_true, decide_false, Bool.true_and, Bool.and_true, Bool.false_and, Bool.and_false, false_and, and_false, Bool.false_eq_true, Bool.true_eq_false, reduceCtorEq, eq_self, if_true, if_false, true_and, and_true, not_true_eq_false, not_false_eq_true, if_pos, if_neg, z_ite_not, false_or, or_false, true_or, or_true, SWs, swk_0, swk_1, a1, n1]
  have lp : ∀ n i m (I1 : Nat → Nat → Int32) (wd : Int32) (u5 : Value), tl - i ≤ n → i ≤ tl → rnE blnk tp tl i = tpo tp tl m → m ≤ i → (∀ j, j < m → tpo tp tl j < tl) → I1 125 3 = nI m → ROWc I1 tp tl m → (∀ a, a < 125 ∨ 128 < a → I1 a = I a) → ∃ I', Ev X d 84 1 [.ref 125, .ref 123, .int (nI tl), .int wd, .int (nI i), u5] [] (mk I1 J) (none, mk I' J) ∧ I' 125 3 = nI (tkT tp tl + 1) ∧ ROWc I' tp tl (tkT tp tl + 1) ∧ CURc I' tp tl 0 ∧ (∀ a, a < 125 ∨ 128 < a → I' a = I a) := by
    intro n
    induction n with
    | zero =>
      intro i m I1 wd u5 hn hi hr hm hj h3 hR fr
      have ei : i = tl := by omega
      subst ei
      rw [rnE_0 (Nat.le_refl _) (fun h => by omega)] at hr
      exact fin m I1 wd u5 hr.symm hm hj h3 hR fr
    | succ n ih =>
      intro i m I1 wd u5 hn hi hr hm hj h3 hR fr
      rcases Nat.lt_or_ge i tl with il | il
      rotate_left
      · have ei : i = tl := by omega
        subst ei
        rw [rnE_0 (Nat.le_refl _) (fun h => by omega)] at hr
        exact fin m I1 wd u5 hr.symm hm hj h3 hR fr
      obtain ⟨c256, tv⟩ := hT.2 i il
      have tv1 : I1 123 i = nI (tp i) := by rw [fr 123 (by decide)]; exact tv
      have hT1 : TPc I1 tp tl := ⟨h400, fun j hj2 => by rw [fr 123 (by decide)]; exact hT.2 j hj2⟩
      have i400 : i < 400 := by omega
      have rf := c_runFrom (X := X) (d := d) (I := I1) (J := J) (tp := tp) (tl := tl) (p := i) (by omega) hT1 il
      have l0 := fun M => s_ltr (X := X) (d := d) (M := M) (c := tp i) (by omega) (by omega)
      have d0 := fun M => s_dgt (X := X) (d := d) (M := M) (c := tp i) (by omega) (by omega)
      by_cases b : blnk (tp i) = true
      · -- a blank
        have nl : ltr (tp i) = false := by
          cases w : ltr (tp i) with
          | false => rfl
          | true => rw [(ltr_n w).2.1] at b; cases b
        have nd : dgt (tp i) = false := by
          cases w : dgt (tp i) with
          | false => rfl
          | true => rw [(dgt_n w).2] at b; cases b
        rw [nl] at l0 rf
        rw [nd] at d0
        rw [if_neg (by decide), rnE_0 (by omega) (fun _ => nd), Nat.sub_self] at rf
        obtain ⟨I', t1, t2⟩ := ih (i + 1) m I1 (nI 1) (.int (nI (tp i))) (by omega) (by omega) (by rw [rnE_b il b]; exact hr) (by omega) hj h3 hR fr
        refine ⟨I', ?_, t2⟩
        have b2 : tp i = 32 ∨ tp i = 10 := by unfold blnk at b; simpa using b
        rw [U_84_1]
        rcases b2 with w | w
        · rw [w] at tv1 l0 d0 t1
          simp (disch := first | omega | assumption | exact rfl) only [U_84_2, U_84_3, U_84_5, U_84_10, U_84_16, XX, QQ, WW, KK, QX, SHs, RRs, Nat.reduceAdd, Nat.reduceMul, Nat.reduceLeDiff, Nat.reduceEqDiff, List.length_cons, List.length_nil, decide_true, decide_false, Bool.true_and, Bool.and_true, Bool.false_and, Bool.and_false, false_and, and_false, Bool.false_eq_true, Bool.true_eq_false, reduceCtorEq, eq_self, if_true, if_false, true_and, and_true, not_true_eq_false, not_false_eq_true, if_pos, if_neg, z_ite_not, false_or, or_false, true_or, or_true, SWs, swk_0, swk_1, rf, tv1, l0, d0]
          exact t1
        · rw [w] at tv1 l0 d0 t1
          simp (disch := first | omega | assumption | exact rfl) only [U_84_2, U_84_3, U_84_5, U_84_10, U_84_11, U_84_16, XX, QQ, WW, KK, QX, SHs, RRs, Nat.reduceAdd, Nat.reduceMul, Nat.reduceLeDiff, Nat.reduceEqDiff, List.length_cons, List.length_nil, decide_true, decide_false, Bool.true_and, Bool.and_true, Bool.false_and, Bool.and_false, false_and, and_false, Bool.false_eq_true, Bool.true_eq_false, reduceCtorEq, eq_self, if_true, if_false, true_and, and_true, not_true_eq_false, not_false_eq_true, if_pos, if_neg, z_ite_not, false_or, or_false, true_or, or_true, SWs, swk_0, swk_1, rf, tv1, l0, d0]
          exact t1
      · have bf : blnk (tp i) = false := by simpa using b
        rw [rnE_0 (by omega) (fun _ => bf)] at hr
        obtain ⟨I2, a1, a2, a3, a4⟩ := addT I1 m (by omega) h3 hR fr
        rw [← hr] at a1
        have pm : tpo tp tl (m + 1) = rnE blnk tp tl (tkN tp tl i) := by rw [tpo, ← hr, if_pos il]
        have kn := tkN_s (tp := tp) il
        have nx : ∀ wd (u5 : Value), ∃ I', Ev X d 84 1 [.ref 125, .ref 123, .int (nI tl), .int wd, .int (nI (tkN tp tl i)), u5] [] (mk I2 J) (none, mk I' J) ∧ I' 125 3 = nI (tkT tp tl + 1) ∧ ROWc I' tp tl (tkT tp tl + 1) ∧ CURc I' tp tl 0 ∧ (∀ a, a < 125 ∨ 128 < a → I' a = I a) := fun wd u5 => ih (tkN tp tl i) (m + 1) I2 wd u5 (by omega) kn.2 pm.symm (by omega) (fun j hj2 => by
          by_cases z : j = m
          · subst z; rw [← hr]; exact il
          · exact hj j (by omega)) a2 a3 a4
        cases lt : ltr (tp i) with
        | true =>
          rw [lt] at l0 rf
          rw [if_pos rfl] at rf
          have eN : tkN tp tl i = rnE ltr tp tl i := by unfold tkN; rw [if_pos lt]
          obtain ⟨e, ee⟩ : ∃ e, e = rnE ltr tp tl i := ⟨_, rfl⟩
          obtain ⟨x1, x2, x3, x4⟩ := rnE_s (P := ltr) (tp := tp) (tl := tl) (p := i) (by omega)
          have eK : tkK tp tl i = wdK (txt tp i (e - i)) := by unfold tkK; rw [if_pos il, if_pos lt, ee]
          have eV : tkV tp tl i = 0 := by unfold tkV; rw [if_neg (fun q => by rw [(ltr_n lt).1] at q; cases q.2)]
          rw [← ee] at rf x1 x2 x3 x4 eN
          rw [eK, eV] at a1
          rw [eN] at kn nx
          have wo := c_wordOf (X := X) (d := d) (I := I1) (J := J) (tp := tp) (tl := tl) (p := i) (n := e - i) (by omega) hT1 (by omega) (fun k hk => (ltr_n (x3 (i + k) (by omega) (by omega))).2.2)
          obtain ⟨q, eq⟩ : ∃ q, q = e - i := ⟨_, rfl⟩
          obtain ⟨I', t1, t2⟩ := nx (nI q) (.int (nI (tp i)))
          refine ⟨I', ?_, t2⟩
          rw [show e = i + q by omega] at t1
          rw [← eq] at rf a1 wo
          have q1 : 1 ≤ q := by omega
          have q4 : q ≤ 400 := by omega
          rw [U_84_1]
          by_cases z : q = 1
          · rw [z] at rf a1 wo t1
            simp (disch := first | omega | assumption | exact rfl) only [U_84_2, U_84_3, U_84_4, U_84_16, XX, QQ, WW, KK, QX, SHs, RRs, Nat.reduceAdd, Nat.reduceMul, Nat.reduceLeDiff, Nat.reduceEqDiff, List.length_cons, List.length_nil, decide_true, decide_false, Bool.true_and, Bool.and_true, Bool.false_and, Bool.and_false, false_and, and_false, Bool.false_eq_true, Bool.true_eq_false, reduceCtorEq, eq_self, if_true, if_false, true_and, and_true, not_true_eq_false, not_false_eq_true, if_pos, if_neg, z_ite_not, false_or, or_false, true_or, or_true, SWs, swk_0, swk_1, rf, tv1, l0, wo, a1]
            exact t1
          · have q2 : 1 < q := by omega
            simp (disch := first | omega | assumption | exact rfl) only [U_84_2, U_84_3, U_84_4, U_84_16, XX, QQ, WW, KK, QX, SHs, RRs, Nat.reduceAdd, Nat.reduceMul, Nat.reduceLeDiff, Nat.reduceEqDiff, List.length_cons, List.length_nil, decide_true, decide_false, Bool.true_and, Bool.and_true, Bool.false_and, Bool.and_false, false_and, and_false, Bool.false_eq_true, Bool.true_eq_false, reduceCtorEq, eq_self, if_true, if_false, true_and, and_true, not_true_eq_false, not_false_eq_true, if_pos, if_neg, z_ite_not, false_or, or_false, true_or, or_true, SWs, swk_0, swk_1, rf, tv1, l0, wo, a1]
            exact t1
        | false =>
          rw [lt] at l0 rf
          rw [if_neg (by decide)] at rf
          cases dt : dgt (tp i) with
          | true =>
            rw [dt] at d0
            have eN : tkN tp tl i = rnE dgt tp tl i := by unfold tkN; rw [if_neg (by rw [lt]; decide), if_pos dt]
            obtain ⟨e, ee⟩ : ∃ e, e = rnE dgt tp tl i := ⟨_, rfl⟩
            obtain ⟨x1, x2, x3, x4⟩ := rnE_s (P := dgt) (tp := tp) (tl := tl) (p := i) (by omega)
            have eK : tkK tp tl i = if e - i ≤ 4 then 2 else 1 := by unfold tkK; rw [if_pos il, if_neg (by rw [lt]; decide), if_pos dt, ee]
            have eV : tkV tp tl i = nmV tp i (if e - i < 4 then e - i else 4) := by unfold tkV; rw [if_pos ⟨il, dt⟩, ee]
            rw [← ee] at rf x1 x2 x3 x4 eN
            rw [eK, eV] at a1
            rw [eN] at kn nx
            have no := c_numberOf (X := X) (d := d) (I := I1) (J := J) (tp := tp) (tl := tl) (p := i) (n := e - i) (by omega) hT1 (by omega) rfl (fun k hk => x3 (i + k) (by omega) (by omega))
            obtain ⟨q, eq⟩ : ∃ q, q = e - i := ⟨_, rfl⟩
            obtain ⟨I', t1, t2⟩ := nx (nI q) (.int (nI (tp i)))
            refine ⟨I', ?_, t2⟩
            rw [show e = i + q by omega] at t1
            rw [← eq] at rf a1 no
            have q1 : 1 ≤ q := by omega
            have q4 : q ≤ 400 := by omega
            obtain ⟨v, ev⟩ : ∃ v, v = nmV tp i (if q < 4 then q else 4) := ⟨_, rfl⟩
            rw [← ev] at a1 no
            rw [U_84_1]
            by_cases w4 : q ≤ 4
            · rw [if_pos w4] at a1
              by_cases z : q = 1
              · rw [z] at rf no t1
                simp (disch := first | omega | assumption | exact rfl) only [U_84_2, U_84_3, U_84_5, U_84_6, U_84_7, U_84_9, U_84_16, XX, QQ, WW, KK, QX, SHs, RRs, Nat.reduceAdd, Nat.reduceMul, Nat.reduceLeDiff, Nat.reduceEqDiff, List.length_cons, List.length_nil, decide_true, decide_false, Bool.true_and, Bool.and_true, Bool.false_and, Bool.and_false, false_and, and_false, Bool.false_eq_true, Bool.true_eq_false, reduceCtorEq, eq_self, if_true, if_false, true_and, and_true, not_true_eq_false, not_false_eq_true, if_pos, if_neg, z_ite_not, false_or, or_false, true_or, or_true, SWs, swk_0, swk_1, rf, tv1, l0, d0, no, a1]
                exact t1
              · have q2 : 1 < q := by omega
                simp (disch := first | omega | assumption | exact rfl) only [U_84_2, U_84_3, U_84_5, U_84_6, U_84_7, U_84_9, U_84_16, XX, QQ, WW, KK, QX, SHs, RRs, Nat.reduceAdd, Nat.reduceMul, Nat.reduceLeDiff, Nat.reduceEqDiff, List.length_cons, List.length_nil, decide_true, decide_false, Bool.true_and, Bool.and_true, Bool.false_and, Bool.and_false, false_and, and_false, Bool.false_eq_true, Bool.true_eq_false, reduceCtorEq, eq_self, if_true, if_false, true_and, and_true, not_true_eq_false, not_false_eq_true, if_pos, if_neg, z_ite_not, false_or, or_false, true_or, or_true, SWs, swk_0, swk_1, rf, tv1, l0, d0, no, a1]
                exact t1
            · rw [if_neg w4] at a1
              have q2 : 1 < q := by omega
              simp (disch := first | omega | assumption | exact rfl) only [U_84_2, U_84_3, U_84_5, U_84_6, U_84_8, U_84_9, U_84_16, XX, QQ, WW, KK, QX, SHs, RRs, Nat.reduceAdd, Nat.reduceMul, Nat.reduceLeDiff, Nat.reduceEqDiff, List.length_cons, List.length_nil, decide_true, decide_false, Bool.true_and, Bool.and_true, Bool.false_and, Bool.and_false, false_and, and_false, Bool.false_eq_true, Bool.true_eq_false, reduceCtorEq, eq_self, if_true, if_false, true_and, and_true, not_true_eq_false, not_false_eq_true, if_pos, if_neg, z_ite_not, false_or, or_false, true_or, or_true, SWs, swk_0, swk_1, rf, tv1, l0, d0, no, a1, w4]
              exact t1
          | false =>
            rw [dt] at d0
            rw [rnE_0 (by omega) (fun _ => dt), Nat.sub_self] at rf
            have eN : tkN tp tl i = i + 1 := by unfold tkN; rw [if_neg (by rw [lt]; decide), if_neg (by rw [dt]; decide)]
            have eK : tkK tp tl i = if sgn (tp i) = true then tp i else 1 := by unfold tkK; rw [if_pos il, if_neg (by rw [lt]; decide), if_neg (by rw [dt]; decide)]
            have eV : tkV tp tl i = 0 := by unfold tkV; rw [if_neg (fun q => by rw [dt] at q; cases q.2)]
            rw [eK, eV] at a1
            rw [eN] at kn nx
            obtain ⟨I', t1, t2⟩ := nx (nI 1) (.int (nI (tp i)))
            refine ⟨I', ?_, t2⟩
            have n32 : ¬ tp i = 32 := fun q => by unfold blnk at bf; rw [q] at bf; cases bf
            have n10 : ¬ tp i = 10 := fun q => by unfold blnk at bf; rw [q] at bf; cases bf
            have px := fun M => p1002 (X := X) (d := d) (M := M) (c := nI (tp i)) (by omega)
            have ch := i2c_s (tp i) c256
            rw [U_84_1]
            rcases fnd_s (tp i) c256 with ⟨s1, s2⟩ | ⟨s1, s2⟩
            · rw [s1, if_pos rfl] at a1
              simp (disch := first | omega | assumption | exact rfl) only [U_84_2, U_84_3, U_84_5, U_84_10, U_84_11, U_84_12, U_84_13, U_84_15, U_84_16, XX, QQ, WW, KK, QX, SHs, RRs, Nat.reduceAdd, Nat.reduceMul, Nat.reduceLeDiff, Nat.reduceEqDiff, List.length_cons, List.length_nil, decide_true, decide_false, Bool.true_and, Bool.and_true, Bool.false_and, Bool.and_false, false_and, and_false, Bool.false_eq_true, Bool.true_eq_false, reduceCtorEq, eq_self, if_true, if_false, true_and, and_true, not_true_eq_false, not_false_eq_true, if_pos, if_neg, z_ite_not, false_or, or_false, true_or, or_true, SWs, swk_0, swk_1, rf, tv1, l0, d0, n32, n10, ch, px, s2, a1]
              exact t1
            · rw [s1, if_neg (by decide)] at a1
              simp (disch := first | omega | assumption | exact rfl) only [U_84_2, U_84_3, U_84_5, U_84_10, U_84_11, U_84_12, U_84_14, U_84_15, U_84_16, XX, QQ, WW, KK, QX, SHs, RRs, Nat.reduceAdd, Nat.reduceMul, Nat.reduceLeDiff, Nat.reduceEqDiff, List.length_cons, List.length_nil, decide_true, decide_false, Bool.true_and, Bool.and_true, Bool.false_and, Bool.and_false, false_and, and_false, Bool.false_eq_true, Bool.true_eq_false, reduceCtorEq, eq_self, if_true, if_false, true_and, and_true, not_true_eq_false, not_false_eq_true, if_pos, if_neg, z_ite_not, false_or, or_false, true_or, or_true, SWs, swk_0, swk_1, rf, tv1, l0, d0, n32, n10, ch, px, s2, a1]
              exact t1
  obtain ⟨I', t1, t2⟩ := lp tl 0 0 (va_up I 125 (va_up (I 125) 3 (nI 0))) (nI 1) (.retAddr 0) (by omega) (Nat.zero_le _) rfl (Nat.le_refl _) (fun j h => by omega) (by rw [vu_eq, vu_eq]) (fun j h => by omega) (fun a ha => vu_ne (by omega))
  refine ⟨I', ?_, t2⟩
  refine callF_at (by omega) (by decide) (Nat.le_of_ble_eq_true rfl) (fun d' hd' => ?_)
  obtain rfl : d = d' := by omega
  show Ev X d 84 0 [.ref 125, .ref 123, .int (nI tl), .retAddr 0, .retAddr 0, .retAddr 0] [] (mk I J) _
  simp (disch := first | omega | assumption | exact rfl) only [U_84_0, XX, QQ, WW, KK, QX, SHs, RRs, Nat.reduceAdd, Nat.reduceMul, Nat.reduceLeDiff, Nat.reduceEqDiff, List.length_cons, List.length_nil, decide_true, decide_false, Bool.true_and, Bool.and_true, Bool.false_and, Bool.and_false, false_and, and_false, Bool.false_eq_true, Bool.true_eq_false, reduceCtorEq, eq_self, if_true, if_false, true_and, and_true, not_true_eq_false, not_false_eq_true, if_pos, if_neg, z_ite_not, false_or, or_false, true_or, or_true, SWs, swk_0, swk_1]
  exact t1
