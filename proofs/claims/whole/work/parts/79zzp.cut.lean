/-! ===== tokens: the class cuts the tape ===== -/
theorem txt_i {tp : Nat → Nat} {p n k : Nat} (hk : k < n) : (txt tp p n).getD k 0 = tp (p + k) := by
  unfold txt
  rw [List.getD_eq_getElem?_getD, List.getElem?_map, List.getElem?_range hk]
  rfl
theorem txt_l {tp : Nat → Nat} {p n : Nat} : (txt tp p n).length = n := by unfold txt; simp
theorem txt_eq {tp : Nat → Nat} {p n : Nat} {l : List Nat} : l = txt tp p n ↔ l.length = n ∧ ∀ k, k < n → l.getD k 0 = tp (p + k) := by
  constructor
  · intro h
    subst h
    exact ⟨txt_l, fun k hk => txt_i hk⟩
  · rintro ⟨h1, h2⟩
    apply List.ext_getElem
    · rw [h1, txt_l]
    · intro k a b
      have e := h2 k (by omega)
      rw [← txt_i (tp := tp) (p := p) (n := n) (by omega)] at e
      rw [List.getD_eq_getElem?_getD, List.getD_eq_getElem?_getD, List.getElem?_eq_getElem a, List.getElem?_eq_getElem b] at e
      exact e
/-- a word of the long row: its letters, then blanks -/
theorem wd_row : ∀ w, w < 20 → (strT (w + 2)).length ≤ 5 ∧ 1 ≤ (strT (w + 2)).length ∧ (∀ k, k < (strT (w + 2)).length → (strT 1).getD (6 * w + k) 0 = (strT (w + 2)).getD k 0 ∧ (strT (w + 2)).getD k 0 ≠ 32) ∧ (∀ k, k < 6 → (strT (w + 2)).length ≤ k → (strT 1).getD (6 * w + k) 0 = 32) := by decide +kernel
theorem st1_len : (strT 1).length = 120 := by decide +kernel
/-- what the class finds at word w: all letters alike and a blank behind them -/
theorem wd_iff {tp : Nat → Nat} {p n w : Nat} (hw : w < 20) (hn : n < 6) (hl : ∀ k, k < n → tp (p + k) ≠ 32) : ((∀ k, k < n → (strT 1).getD (6 * w + k) 0 = tp (p + k)) ∧ (strT 1).getD (6 * w + n) 0 = 32) ↔ strT (w + 2) = txt tp p n := by
  obtain ⟨a, b, c, e⟩ := wd_row w hw
  rw [txt_eq]
  constructor
  · rintro ⟨x, y⟩
    have len : (strT (w + 2)).length = n := by
      rcases Nat.lt_trichotomy (strT (w + 2)).length n with q | q | q
      · have := e _ (by omega) (Nat.le_refl _)
        rw [x _ q] at this
        exact absurd this (hl _ q)
      · exact q
      · have := c n q
        rw [y] at this
        exact absurd this.1.symm this.2
    exact ⟨len, fun k hk => by rw [← (c k (by omega)).1]; exact x k hk⟩
  · rintro ⟨x, y⟩
    exact ⟨fun k hk => by rw [(c k (by omega)).1]; exact y k hk, e n hn (by omega)⟩
theorem p1000 {X : Nat × (Nat → Int32)} {d : Nat} {M : Mem} {k : Nat} (hd : 9 ≤ d) (hk : k < 22) : callF X d 1000 [.float (UInt32.ofNat k)] M = some (some (.int (nI (strT k).length)), M) := by
  obtain ⟨d, rfl⟩ : ∃ d', d = d' + 1 := ⟨d - 1, by omega⟩
  have e : (UInt32.ofNat k).toNat = k := by rw [UInt32.toNat_ofNat']; exact Nat.mod_eq_of_lt (by omega)
  show (if 1000 < 1000 then _ else if 8 ≤ d then prim 1000 [.float (UInt32.ofNat k)] M else none) = _
  rw [if_neg (by omega), if_pos (by omega)]
  show (if (UInt32.ofNat k).toNat < 22 then _ else _) = _
  rw [e, if_pos hk]
theorem p1001 {X : Nat × (Nat → Int32)} {d : Nat} {M : Mem} {k i : Nat} (hd : 9 ≤ d) (hk : k < 22) (hi : i < (strT k).length) (hi2 : i < 2 ^ 31) : callF X d 1001 [.float (UInt32.ofNat k), .int (nI i)] M = some (some (.int (nI ((strT k).getD i 0))), M) := by
  obtain ⟨d, rfl⟩ : ∃ d', d = d' + 1 := ⟨d - 1, by omega⟩
  have e : (UInt32.ofNat k).toNat = k := by rw [UInt32.toNat_ofNat']; exact Nat.mod_eq_of_lt (by omega)
  show (if 1001 < 1000 then _ else if 8 ≤ d then prim 1001 [.float (UInt32.ofNat k), .int (nI i)] M else none) = _
  rw [if_neg (by omega), if_pos (by omega)]
  show (if (UInt32.ofNat k).toNat < 22 ∧ inb (nI i) (strT (UInt32.ofNat k).toNat).length = true then _ else _) = _
  have ib : inb (nI i) (strT k).length = true := by
    unfold inb
    rw [q_cl hi2, decide_eq_true hi, decide_eq_false (fun z => by rw [show (0 : Int32) = nI 0 from rfl, nI_ltI hi2 (by decide)] at z; omega)]; rfl
  rw [e, if_pos ⟨hk, ib⟩, q_cl hi2]
/-! fields of the tokens: count, at, kind, place, value -/
theorem c_add {X : Nat × (Nat → Int32)} {d : Nat} {I : Nat → Nat → Int32} {J : Nat → Nat → Int64} {c k p v : Nat} (hd : 1 ≤ d) (h3 : I 125 3 = nI c) (hc : c ≤ 400) : callF X d 90 [.ref 125, .int (nI k), .int (nI p), .int (nI v)] (mk I J) = some (none, mk (va_up (va_up (va_up (va_up I 126 (va_up (I 126) c (nI k))) 127 (va_up (I 127) c (nI p))) 128 (va_up (I 128) c (nI v))) 125 (va_up (I 125) 3 (nI (c + 1)))) J) := by
  refine callF_at (by omega) (by decide) (Nat.le_of_ble_eq_true rfl) (fun d _ => ?_)
  show Ev X d 90 0 [.ref 125, .int (nI k), .int (nI p), .int (nI v)] [] ( mk I J) _
  have c401 : c < 401 := by omega
  simp (disch := first | omega | assumption | exact rfl) only [U_90_0, U_90_1, U_90_2, XX, QQ, WW, KK, QX, SHs, RRs, Nat.reduceAdd, Nat.reduceMul, Nat.reduceLeDiff, Nat.reduceEqDiff, List.length_cons, List.length_nil, decide_true, decide_false, Bool.true_and, Bool.and_true, Bool.false_and, Bool.and_false, false_and, and_false, Bool.false_eq_true, Bool.true_eq_false, reduceCtorEq, eq_self, if_true, if_false, true_and, and_true, not_true_eq_false, not_false_eq_true, if_pos, if_neg, z_ite_not, false_or, or_false, true_or, or_true, SWs, swk_0, swk_1, h3]
def CURc (I : Nat → Nat → Int32) (tp : Nat → Nat) (tl m : Nat) : Prop := I 125 4 = nI m ∧ I 125 5 = nI (tkK tp tl (tpo tp tl m)) ∧ I 125 6 = nI (tpo tp tl m) ∧ I 125 7 = nI (tkV tp tl (tpo tp tl m))
def ROWc (I : Nat → Nat → Int32) (tp : Nat → Nat) (tl m : Nat) : Prop := ∀ j, j < m → I 126 j = nI (tkK tp tl (tpo tp tl j)) ∧ I 127 j = nI (tpo tp tl j) ∧ I 128 j = nI (tkV tp tl (tpo tp tl j))
theorem c_next {X : Nat × (Nat → Int32)} {d : Nat} {I : Nat → Nat → Int32} {J : Nat → Nat → Int64} {tp : Nat → Nat} {tl m : Nat} (hd : 1 ≤ d) (h3 : I 125 3 = nI (tkT tp tl + 1)) (hl : tl ≤ 400) (hR : ROWc I tp tl (tkT tp tl + 1)) (hm : m ≤ tkT tp tl) (h4 : I 125 4 = nI m) : ∃ I', callF X d 91 [.ref 125] (mk I J) = some (none, mk I' J) ∧ CURc I' tp tl (if m < tkT tp tl then m + 1 else m) ∧ (∀ a, a ≠ 125 → I' a = I a) ∧ I' 125 3 = nI (tkT tp tl + 1) := by
  have tT := (tkT_s (tp := tp) (tl := tl)).1
  obtain ⟨T, eT⟩ : ∃ T, T = tkT tp tl := ⟨_, rfl⟩
  rw [← eT] at h3 hR hm tT ⊢
  by_cases z : m < T
  · rw [if_pos z]
    obtain ⟨x1, x2, x3⟩ := hR (m + 1) (by omega)
    refine ⟨va_up I 125 (va_up (va_up (va_up (va_up (I 125) 4 (nI (m + 1))) 5 (I 126 (m + 1))) 6 (I 127 (m + 1))) 7 (I 128 (m + 1))), ?_, ⟨?_, ?_, ?_, ?_⟩, fun a ha => vu_ne ha, ?_⟩
    · refine callF_at (by omega) (by decide) (Nat.le_of_ble_eq_true rfl) (fun d _ => ?_)
      show Ev X d 91 0 [.ref 125] [] ( mk I J) _
      have z1 : m + 1 < T + 1 := by omega
      have z2 : m + 1 ≤ 400 := by omega
      have z3 : m + 1 < 401 := by omega
      simp (disch := first | omega | assumption | exact rfl) only [U_91_0, U_91_1, U_91_2, U_91_3, U_91_4, U_91_5, XX, QQ, WW, KK, QX, SHs, RRs, Nat.reduceAdd, Nat.reduceMul, Nat.reduceLeDiff, Nat.reduceEqDiff, List.length_cons, List.length_nil, decide_true, decide_false, Bool.true_and, Bool.and_true, Bool.false_and, Bool.and_false, false_and, and_false, Bool.false_eq_true, Bool.true_eq_false, reduceCtorEq, eq_self, if_true, if_false, true_and, and_true, not_true_eq_false, not_false_eq_true, if_pos, if_neg, z_ite_not, false_or, or_false, true_or, or_true, SWs, swk_0, swk_1, h4, h3]
    · rw [vu_eq, vu_ne (by decide), vu_ne (by decide), vu_ne (by decide), vu_eq]
    · rw [vu_eq, vu_ne (by decide), vu_ne (by decide), vu_eq]; exact x1
    · rw [vu_eq, vu_ne (by decide), vu_eq]; exact x2
    · rw [vu_eq, vu_eq]; exact x3
    · rw [vu_eq, vu_ne (by decide), vu_ne (by decide), vu_ne (by decide), vu_ne (by decide)]; exact h3
  · rw [if_neg z]
    have e : m = T := by omega
    obtain ⟨x1, x2, x3⟩ := hR m (by omega)
    refine ⟨va_up I 125 (va_up (va_up (va_up (I 125) 5 (I 126 m)) 6 (I 127 m)) 7 (I 128 m)), ?_, ⟨?_, ?_, ?_, ?_⟩, fun a ha => vu_ne ha, ?_⟩
    · refine callF_at (by omega) (by decide) (Nat.le_of_ble_eq_true rfl) (fun d _ => ?_)
      show Ev X d 91 0 [.ref 125] [] ( mk I J) _
      have z1 : ¬ m + 1 < T + 1 := by omega
      have z2 : m ≤ 400 := by omega
      have z3 : m < 401 := by omega
      simp (disch := first | omega | assumption | exact rfl) only [U_91_0, U_91_2, U_91_3, U_91_4, U_91_5, XX, QQ, WW, KK, QX, SHs, RRs, Nat.reduceAdd, Nat.reduceMul, Nat.reduceLeDiff, Nat.reduceEqDiff, List.length_cons, List.length_nil, decide_true, decide_false, Bool.true_and, Bool.and_true, Bool.false_and, Bool.and_false, false_and, and_false, Bool.false_eq_true, Bool.true_eq_false, reduceCtorEq, eq_self, if_true, if_false, true_and, and_true, not_true_eq_false, not_false_eq_true, if_pos, if_neg, z_ite_not, false_or, or_false, true_or, or_true, SWs, swk_0, swk_1, h4, h3, z1]
    · rw [vu_eq, vu_ne (by decide), vu_ne (by decide), vu_ne (by decide)]; exact h4
    · rw [vu_eq, vu_ne (by decide), vu_ne (by decide), vu_eq]; exact x1
    · rw [vu_eq, vu_ne (by decide), vu_eq]; exact x2
    · rw [vu_eq, vu_eq]; exact x3
    · rw [vu_eq, vu_ne (by decide), vu_ne (by decide), vu_ne (by decide)]; exact h3
theorem c_wordOf {X : Nat × (Nat → Int32)} {d : Nat} {I : Nat → Nat → Int32} {J : Nat → Nat → Int64} {tp : Nat → Nat} {tl p n : Nat} (hd : 10 ≤ d) (hT : TPc I tp tl) (hn : p + n ≤ tl) (hL : ∀ k, k < n → tp (p + k) ≠ 32) : callF X d 88 [.ref 123, .int (nI p), .int (nI n)] (mk I J) = some (some (.int (nI (wdK (txt tp p n)))), mk I J) := by
  obtain ⟨h400, hT⟩ := hT
  refine callF_at (by omega) (by decide) (Nat.le_of_ble_eq_true rfl) (fun d _ => ?_)
  show Ev X d 88 0 [.ref 123, .int (nI p), .int (nI n), .retAddr 0, .retAddr 0] [] ( mk I J) _
  have pl := fun M => p1000 (X := X) (d := d) (M := M) (k := 1) (by omega) (by decide)
  rw [st1_len] at pl
  have pc : ∀ M i, i < 120 → callF X d 1001 [.float (UInt32.ofNat 1), .int (nI i)] M = some (some (.int (nI ((strT 1).getD i 0))), M) := fun M i hi => p1001 (X := X) (d := d) (M := M) (k := 1) (i := i) (by omega) (by decide) (by rw [st1_len]; exact hi) (by omega)
  have cb : ∀ i, (strT 1).getD i 0 < 256 := fun i => by
    rcases Nat.lt_or_ge i 120 with q | q
    · exact (by decide +kernel : ∀ i, i < 120 → (strT 1).getD i 0 < 256) i q
    · rw [List.getD_eq_getElem?_getD, List.getElem?_eq_none (by rw [st1_len]; exact q)]; decide
  rcases Nat.lt_or_ge n 6 with n6 | n6
  · have lp : ∀ w, w ≤ 20 → (∀ w', w' < w → strT (w' + 2) ≠ txt tp p n) → ∀ u4 : Value, Ev X d 88 1 [.ref 123, .int (nI p), .int (nI n), .int (nI (6 * w)), u4] [] (mk I J) (some (.int (nI (wdK (txt tp p n)))), mk I J) := by
      refine lpd (n := 20) (P := fun w => (∀ w', w' < w → strT (w' + 2) ≠ txt tp p n) → ∀ u4 : Value, Ev X d 88 1 [.ref 123, .int (nI p), .int (nI n), .int (nI (6 * w)), u4] [] (mk I J) (some (.int (nI (wdK (txt tp p n)))), mk I J)) ?_ ?_
      · intro no u4
        rw [wdK_no no, U_88_1]
        simp (disch := first | omega | assumption | exact rfl) only [U_88_12, XX, QQ, WW, KK, QX, SHs, RRs, Nat.reduceAdd, Nat.reduceMul, Nat.reduceLeDiff, Nat.reduceEqDiff, List.length_cons, List.length_nil, decide_true, decide_false, Bool.true_and, Bool.and_true, Bool.false_and, Bool.and_false, false_and, and_false, Bool.false_eq_true, Bool.true_eq_false, reduceCtorEq, eq_self, if_true, if_false, true_and, and_true, not_true_eq_false, not_false_eq_true, if_pos, if_neg, z_ite_not, false_or, or_false, true_or, or_true, SWs, swk_0, swk_1, pl]
      · intro w hw ih no u4
        have iff := wd_iff (tp := tp) (p := p) (n := n) hw n6 hL
        -- how far they are alike
        obtain ⟨a, ea⟩ : ∃ a, a = fa_first (fun k => decide ((strT 1).getD (6 * w + k) 0 ≠ tp (p + k))) n := ⟨_, rfl⟩
        have al := fa_first_le (fun k => decide ((strT 1).getD (6 * w + k) 0 ≠ tp (p + k))) n
        rw [← ea] at al
        have same : ∀ k, k < a → (strT 1).getD (6 * w + k) 0 = tp (p + k) := fun k hk => by
          have := fa_first_no (fun k => decide ((strT 1).getD (6 * w + k) 0 ≠ tp (p + k))) n k (by rw [← ea]; exact hk)
          simpa using this
        have diff : a < n → (strT 1).getD (6 * w + a) 0 ≠ tp (p + a) := fun h => by
          have := fa_first_yes (fun k => decide ((strT 1).getD (6 * w + k) 0 ≠ tp (p + k))) n (by rw [← ea]; exact h)
          rw [← ea] at this
          exact of_decide_eq_true this
        have w120 : 6 * w + 6 ≤ 120 := by omega
        -- behind the letters
        have behind : Ev X d 88 8 [.ref 123, .int (nI p), .int (nI n), .int (nI (6 * w)), .int (nI a)] [] (mk I J) (some (.int (nI (wdK (txt tp p n)))), mk I J) := by
          have more : strT (w + 2) ≠ txt tp p n → ∀ u4 : Value, Ev X d 88 11 [.ref 123, .int (nI p), .int (nI n), .int (nI (6 * w)), u4] [] (mk I J) (some (.int (nI (wdK (txt tp p n)))), mk I J) := fun h u4 => by
            have k := ih (fun w' hw' => by
              by_cases z : w' = w
              · subst z; exact h
              · exact no w' (by omega)) u4
            rw [show 6 * (w + 1) = 6 * w + 6 by omega] at k
            simp (disch := first | omega | assumption | exact rfl) only [U_88_11, XX, QQ, WW, KK, QX, SHs, RRs, Nat.reduceAdd, Nat.reduceMul, Nat.reduceLeDiff, Nat.reduceEqDiff, List.length_cons, List.length_nil, decide_true, decide_false, Bool.true_and, Bool.and_true, Bool.false_and, Bool.and_false, false_and, and_false, Bool.false_eq_true, Bool.true_eq_false, reduceCtorEq, eq_self, if_true, if_false, true_and, and_true, not_true_eq_false, not_false_eq_true, if_pos, if_neg, z_ite_not, false_or, or_false, true_or, or_true, SWs, swk_0, swk_1]
            exact k
          by_cases z : a = n
          · have ch := pc (mk I J) (6 * w + n) (by omega)
            by_cases y : (strT 1).getD (6 * w + n) 0 = 32
            · have e := iff.mp ⟨fun k hk => same k (by omega), y⟩
              rw [wdK_is hw e]
              rw [y] at ch
              have dv : nI (6 * w) / nI 6 = nI w := by rw [q_div (by omega) (by decide) (by decide)]; congr 1; omega
              have n0 : ¬ (nI 6 : Int32) = 0 := by decide +kernel
              rw [z]
              simp (disch := first | omega | assumption | exact rfl) only [U_88_8, U_88_9, U_88_10, XX, QQ, WW, KK, QX, SHs, RRs, Nat.reduceAdd, Nat.reduceMul, Nat.reduceLeDiff, Nat.reduceEqDiff, List.length_cons, List.length_nil, decide_true, decide_false, Bool.true_and, Bool.and_true, Bool.false_and, Bool.and_false, false_and, and_false, Bool.false_eq_true, Bool.true_eq_false, reduceCtorEq, eq_self, if_true, if_false, true_and, and_true, not_true_eq_false, not_false_eq_true, if_pos, if_neg, z_ite_not, false_or, or_false, true_or, or_true, SWs, swk_0, swk_1, ch, dv, n0]
            · have k := more (fun h => y (iff.mpr h).2) (.int (nI a))
              have cbn := cb (6 * w + n)
              rw [z] at k ⊢
              simp (disch := first | omega | assumption | exact rfl) only [U_88_8, U_88_9, XX, QQ, WW, KK, QX, SHs, RRs, Nat.reduceAdd, Nat.reduceMul, Nat.reduceLeDiff, Nat.reduceEqDiff, List.length_cons, List.length_nil, decide_true, decide_false, Bool.true_and, Bool.and_true, Bool.false_and, Bool.and_false, false_and, and_false, Bool.false_eq_true, Bool.true_eq_false, reduceCtorEq, eq_self, if_true, if_false, true_and, and_true, not_true_eq_false, not_false_eq_true, if_pos, if_neg, z_ite_not, false_or, or_false, true_or, or_true, SWs, swk_0, swk_1, ch, y]
              exact k
          · have k := more (fun h => diff (by omega) ((iff.mpr h).1 a (by omega))) (.int (nI a))
            simp (disch := first | omega | assumption | exact rfl) only [U_88_8, XX, QQ, WW, KK, QX, SHs, RRs, Nat.reduceAdd, Nat.reduceMul, Nat.reduceLeDiff, Nat.reduceEqDiff, List.length_cons, List.length_nil, decide_true, decide_false, Bool.true_and, Bool.and_true, Bool.false_and, Bool.and_false, false_and, and_false, Bool.false_eq_true, Bool.true_eq_false, reduceCtorEq, eq_self, if_true, if_false, true_and, and_true, not_true_eq_false, not_false_eq_true, if_pos, if_neg, z_ite_not, false_or, or_false, true_or, or_true, SWs, swk_0, swk_1, z]
            exact k
        have inner : ∀ k, k ≤ a → Ev X d 88 4 [.ref 123, .int (nI p), .int (nI n), .int (nI (6 * w)), .int (nI k)] [] (mk I J) (some (.int (nI (wdK (txt tp p n)))), mk I J) := by
          refine lpd (n := a) (P := fun k => Ev X d 88 4 [.ref 123, .int (nI p), .int (nI n), .int (nI (6 * w)), .int (nI k)] [] (mk I J) (some (.int (nI (wdK (txt tp p n)))), mk I J)) ?_ ?_
          · rw [U_88_4]
            rcases Nat.lt_or_ge a n with q | q
            · have ch := pc (mk I J) (6 * w + a) (by omega)
              obtain ⟨y1, y2⟩ := hT (p + a) (by omega)
              have cbn := cb (6 * w + a)
              have df := diff q
              have a400 : p + a < 400 := by omega
              simp (disch := first | omega | assumption | exact rfl) only [U_88_5, U_88_6, XX, QQ, WW, KK, QX, SHs, RRs, Nat.reduceAdd, Nat.reduceMul, Nat.reduceLeDiff, Nat.reduceEqDiff, List.length_cons, List.length_nil, decide_true, decide_false, Bool.true_and, Bool.and_true, Bool.false_and, Bool.and_false, false_and, and_false, Bool.false_eq_true, Bool.true_eq_false, reduceCtorEq, eq_self, if_true, if_false, true_and, and_true, not_true_eq_false, not_false_eq_true, if_pos, if_neg, z_ite_not, false_or, or_false, true_or, or_true, SWs, swk_0, swk_1, ch, y2, df]
              exact behind
            · have q' : a = n := by omega
              rw [q'] at behind ⊢
              simp (disch := first | omega | assumption | exact rfl) only [U_88_4, XX, QQ, WW, KK, QX, SHs, RRs, Nat.reduceAdd, Nat.reduceMul, Nat.reduceLeDiff, Nat.reduceEqDiff, List.length_cons, List.length_nil, decide_true, decide_false, Bool.true_and, Bool.and_true, Bool.false_and, Bool.and_false, false_and, and_false, Bool.false_eq_true, Bool.true_eq_false, reduceCtorEq, eq_self, if_true, if_false, true_and, and_true, not_true_eq_false, not_false_eq_true, if_pos, if_neg, z_ite_not, false_or, or_false, true_or, or_true, SWs, swk_0, swk_1]
              exact behind
          · intro k hk IH
            have ch := pc (mk I J) (6 * w + k) (by omega)
            obtain ⟨y1, y2⟩ := hT (p + k) (by omega)
            rw [same k hk] at ch
            have kn : k < n := by omega
            have k400 : p + k < 400 := by omega
            rw [U_88_4]
            simp (disch := first | omega | assumption | exact rfl) only [U_88_5, U_88_6, U_88_7, XX, QQ, WW, KK, QX, SHs, RRs, Nat.reduceAdd, Nat.reduceMul, Nat.reduceLeDiff, Nat.reduceEqDiff, List.length_cons, List.length_nil, decide_true, decide_false, Bool.true_and, Bool.and_true, Bool.false_and, Bool.and_false, false_and, and_false, Bool.false_eq_true, Bool.true_eq_false, reduceCtorEq, eq_self, if_true, if_false, true_and, and_true, not_true_eq_false, not_false_eq_true, if_pos, if_neg, z_ite_not, false_or, or_false, true_or, or_true, SWs, swk_0, swk_1, ch, y2]
            exact IH
        have st := inner 0 (Nat.zero_le _)
        have le : 6 * w + 6 ≤ 120 := w120
        rw [U_88_1]
        simp (disch := first | omega | assumption | exact rfl) only [U_88_2, U_88_3, XX, QQ, WW, KK, QX, SHs, RRs, Nat.reduceAdd, Nat.reduceMul, Nat.reduceLeDiff, Nat.reduceEqDiff, List.length_cons, List.length_nil, decide_true, decide_false, Bool.true_and, Bool.and_true, Bool.false_and, Bool.and_false, false_and, and_false, Bool.false_eq_true, Bool.true_eq_false, reduceCtorEq, eq_self, if_true, if_false, true_and, and_true, not_true_eq_false, not_false_eq_true, if_pos, if_neg, z_ite_not, false_or, or_false, true_or, or_true, SWs, swk_0, swk_1, pl]
        exact st
    have st := lp 0 (Nat.zero_le _) (fun w' h => by omega) (.retAddr 0)
    simp (disch := first | omega | assumption | exact rfl) only [U_88_0, XX, QQ, WW, KK, QX, SHs, RRs, Nat.reduceAdd, Nat.reduceMul, Nat.reduceLeDiff, Nat.reduceEqDiff, List.length_cons, List.length_nil, decide_true, decide_false, Bool.true_and, Bool.and_true, Bool.false_and, Bool.and_false, false_and, and_false, Bool.false_eq_true, Bool.true_eq_false, reduceCtorEq, eq_self, if_true, if_false, true_and, and_true, not_true_eq_false, not_false_eq_true, if_pos, if_neg, z_ite_not, false_or, or_false, true_or, or_true, SWs, swk_0, swk_1]
    exact st
  · have e : wdK (txt tp p n) = 1 := wdK_no (fun w hw h => by
      have := (wd_row w hw).1
      rw [h, txt_l] at this
      omega)
    rw [e]
    have nl : ¬ n < 6 := by omega
    simp (disch := first | omega | assumption | exact rfl) only [U_88_0, U_88_1, U_88_2, U_88_12, XX, QQ, WW, KK, QX, SHs, RRs, Nat.reduceAdd, Nat.reduceMul, Nat.reduceLeDiff, Nat.reduceEqDiff, List.length_cons, List.length_nil, decide_true, decide_false, Bool.true_and, Bool.and_true, Bool.false_and, Bool.and_false, false_and, and_false, Bool.false_eq_true, Bool.true_eq_false, reduceCtorEq, eq_self, if_true, if_false, true_and, and_true, not_true_eq_false, not_false_eq_true, if_pos, if_neg, z_ite_not, false_or, or_false, true_or, or_true, SWs, swk_0, swk_1, pl, nl]
