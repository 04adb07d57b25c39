/-! ===== raising a wall ===== -/
def MW (M : Mem) (W : Nat) (j : Nat → Int64) (c f1 f2 f3 : Nat → Int32) : Mem := (m_n M, m_z M, m_sh M, m_R M, va_up (va_up (va_up (va_up (m_I M) W c) (W + 1) f1) (W + 2) f2) (W + 3) f3, va_up (m_J M) W j)
section MWS
variable {M : Mem} {W a : Nat} {j j' : Nat → Int64} {c f1 f2 f3 g : Nat → Int32}
theorem mw_sh : m_sh (MW M W j c f1 f2 f3) = m_sh M := rfl
theorem mw_R : m_R (MW M W j c f1 f2 f3) = m_R M := rfl
theorem mw_n : m_n (MW M W j c f1 f2 f3) = m_n M := rfl
theorem mw_z : m_z (MW M W j c f1 f2 f3) = m_z M := rfl
theorem mw_J : m_J (MW M W j c f1 f2 f3) W = j := vu_eq
theorem mw_Jn (h : a ≠ W) : m_J (MW M W j c f1 f2 f3) a = m_J M a := vu_ne h
theorem mw_I0 : m_I (MW M W j c f1 f2 f3) W = c := by
  show va_up (va_up (va_up (va_up (m_I M) W c) (W + 1) f1) (W + 2) f2) (W + 3) f3 W = _
  rw [vu_ne (by omega), vu_ne (by omega), vu_ne (by omega), vu_eq]
theorem mw_I1 : m_I (MW M W j c f1 f2 f3) (W + 1) = f1 := by
  show va_up (va_up (va_up (va_up (m_I M) W c) (W + 1) f1) (W + 2) f2) (W + 3) f3 (W + 1) = _
  rw [vu_ne (by omega), vu_ne (by omega), vu_eq]
theorem mw_I2 : m_I (MW M W j c f1 f2 f3) (W + 2) = f2 := by
  show va_up (va_up (va_up (va_up (m_I M) W c) (W + 1) f1) (W + 2) f2) (W + 3) f3 (W + 2) = _
  rw [vu_ne (by omega), vu_eq]
theorem mw_I3 : m_I (MW M W j c f1 f2 f3) (W + 3) = f3 := vu_eq
theorem mw_In (h : a < W ∨ W + 3 < a) : m_I (MW M W j c f1 f2 f3) a = m_I M a := by
  show va_up (va_up (va_up (va_up (m_I M) W c) (W + 1) f1) (W + 2) f2) (W + 3) f3 a = _
  rw [vu_ne (by omega), vu_ne (by omega), vu_ne (by omega), vu_ne (by omega)]
theorem mw_w0 : m_rI (MW M W j c f1 f2 f3) W g = MW M W j g f1 f2 f3 := by
  show (_, _, _, _, va_up (va_up (va_up (va_up (va_up (m_I M) W c) (W + 1) f1) (W + 2) f2) (W + 3) f3) W g, _) = (_, _, _, _, va_up (va_up (va_up (va_up (m_I M) W g) (W + 1) f1) (W + 2) f2) (W + 3) f3, _)
  rw [vu_cm (by omega), vu_cm (a := W + 2) (by omega), vu_cm (a := W + 1) (by omega), vu_vu]; rfl
theorem mw_w1 : m_rI (MW M W j c f1 f2 f3) (W + 1) g = MW M W j c g f2 f3 := by
  show (_, _, _, _, va_up (va_up (va_up (va_up (va_up (m_I M) W c) (W + 1) f1) (W + 2) f2) (W + 3) f3) (W + 1) g, _) = (_, _, _, _, va_up (va_up (va_up (va_up (m_I M) W c) (W + 1) g) (W + 2) f2) (W + 3) f3, _)
  rw [vu_cm (a := W + 3) (by omega), vu_cm (a := W + 2) (by omega), vu_vu]; rfl
theorem mw_w2 : m_rI (MW M W j c f1 f2 f3) (W + 2) g = MW M W j c f1 g f3 := by
  show (_, _, _, _, va_up (va_up (va_up (va_up (va_up (m_I M) W c) (W + 1) f1) (W + 2) f2) (W + 3) f3) (W + 2) g, _) = (_, _, _, _, va_up (va_up (va_up (va_up (m_I M) W c) (W + 1) f1) (W + 2) g) (W + 3) f3, _)
  rw [vu_cm (a := W + 3) (by omega), vu_vu]; rfl
theorem mw_w3 : m_rI (MW M W j c f1 f2 f3) (W + 3) g = MW M W j c f1 f2 g := by
  show (_, _, _, _, va_up (va_up (va_up (va_up (va_up (m_I M) W c) (W + 1) f1) (W + 2) f2) (W + 3) f3) (W + 3) g, _) = (_, _, _, _, va_up (va_up (va_up (va_up (m_I M) W c) (W + 1) f1) (W + 2) f2) (W + 3) g, _)
  rw [vu_vu]; rfl
theorem mw_wJ : m_rJ (MW M W j c f1 f2 f3) W j' = MW M W j' c f1 f2 f3 := by
  show (_, _, _, _, _, va_up (va_up (m_J M) W j) W j') = (_, _, _, _, _, va_up (m_J M) W j')
  rw [vu_vu]; rfl
theorem mw_id : M = MW M W (m_J M W) (m_I M W) (m_I M (W + 1)) (m_I M (W + 2)) (m_I M (W + 3)) := by
  have h1 : va_up (m_I M) W (m_I M W) = m_I M := vu_id
  have h2 : va_up (m_I M) (W + 1) (m_I M (W + 1)) = m_I M := vu_id
  have h3 : va_up (m_I M) (W + 2) (m_I M (W + 2)) = m_I M := vu_id
  have h4 : va_up (m_I M) (W + 3) (m_I M (W + 3)) = m_I M := vu_id
  have h5 : va_up (m_J M) W (m_J M W) = m_J M := vu_id
  unfold MW
  rw [h1, h2, h3, h4, h5]; rfl
end MWS
def MWs := And.intro @mw_sh (And.intro @mw_R (And.intro @mw_n (And.intro @mw_z (And.intro @mw_J (And.intro @mw_Jn (And.intro @mw_I0 (And.intro @mw_I1 (And.intro @mw_I2 (And.intro @mw_I3 (And.intro @mw_In (And.intro @mw_w0 (And.intro @mw_w1 (And.intro @mw_w2 (And.intro @mw_w3 @mw_wJ))))))))))))))
def plA (F p : Nat) (g : Nat → Int32) : Nat → Int32 := fun i => if i < num F p then nI (pl F i) else g i
def tcA (F i : Nat) (g : Nat → Int32) : Nat → Int32 := fun k => if k < 4 * i then tch F (k / 4) (k % 4) else g k
theorem plA_0 {F : Nat} {g : Nat → Int32} : plA F 0 g = g := by funext i; unfold plA; rw [if_neg (by simp [num, fb_ct])]
theorem plA_s {F p : Nat} {g : Nat → Int32} (hp : p < 64) (h : F.testBit p = true) : va_up (plA F p g) (num F p) (nI p) = plA F (p + 1) g := by
  have e : num F (p + 1) = num F p + 1 := by unfold num; rw [fb_ct_succ, if_pos h]
  funext i; unfold va_up plA
  rw [e]
  by_cases h1 : i = num F p
  · rw [if_pos h1, if_pos (by omega), h1, pl_num hp h]
  · rw [if_neg h1]
    by_cases h2 : i < num F p
    · rw [if_pos h2, if_pos (by omega)]
    · rw [if_neg h2, if_neg (by omega)]
theorem plA_n {F p : Nat} {g : Nat → Int32} (h : F.testBit p = false) : num F (p + 1) = num F p ∧ plA F (p + 1) g = plA F p g := by
  have e : num F (p + 1) = num F p := by unfold num; rw [fb_ct_succ, h]; simp
  exact ⟨e, by unfold plA; rw [e]⟩
theorem tcA_s {F i : Nat} {g : Nat → Int32} : va_up (va_up (va_up (va_up (tcA F i g) (i * 4) (tch F i 0)) (i * 4 + 1) (tch F i 1)) (i * 4 + 2) (tch F i 2)) (i * 4 + 3) (tch F i 3) = tcA F (i + 1) g := by
  funext k
  by_cases h3 : k = i * 4 + 3
  · rw [h3, vu_eq]; unfold tcA; rw [if_pos (by omega), show (i * 4 + 3) / 4 = i by omega, show (i * 4 + 3) % 4 = 3 by omega]
  rw [vu_ne h3]
  by_cases h2 : k = i * 4 + 2
  · rw [h2, vu_eq]; unfold tcA; rw [if_pos (by omega), show (i * 4 + 2) / 4 = i by omega, show (i * 4 + 2) % 4 = 2 by omega]
  rw [vu_ne h2]
  by_cases h1 : k = i * 4 + 1
  · rw [h1, vu_eq]; unfold tcA; rw [if_pos (by omega), show (i * 4 + 1) / 4 = i by omega, show (i * 4 + 1) % 4 = 1 by omega]
  rw [vu_ne h1]
  by_cases h0 : k = i * 4
  · rw [h0, vu_eq]; unfold tcA; rw [if_pos (by omega), show (i * 4) / 4 = i by omega, show (i * 4) % 4 = 0 by omega]
  rw [vu_ne h0]
  unfold tcA
  by_cases h : k < 4 * i
  · rw [if_pos h, if_pos (by omega)]
  · rw [if_neg h, if_neg (by omega)]
theorem tcA_0 {F : Nat} {g : Nat → Int32} : tcA F 0 g = g := by funext k; unfold tcA; rw [if_neg (by omega)]
def Wend (M : Mem) (W F : Nat) : Mem := MW M W (va_up (m_J M W) 0 (lN F)) (va_up (m_I M W) 1 (nI (pop F))) (fillI 24 (-1) (m_I M (W + 1))) (plA F 64 (m_I M (W + 2))) (tcA F (pop F) (fillI 96 (-1) (m_I M (W + 3))))
theorem l_93b {X : Nat × (Nat → Int32)} {d : Nat} {M : Mem} {W F : Nat} {u3 u4 : Value} (hd : 3 ≤ d) (hW : WA M W) (hF : F < 2 ^ 64) (h24 : pop F ≤ 24) : Ev X d 93 6 [.ref W, .long (lN F), .retAddr 0, u3, u4] [] (MW M W (va_up (m_J M W) 0 (lN F)) (va_up (m_I M W) 1 (nI (pop F))) (fillI 24 (-1) (m_I M (W + 1))) (plA F 64 (m_I M (W + 2))) (fillI 96 (-1) (m_I M (W + 3)))) (none, Wend M W F) := by
  obtain ⟨h1, h2, h3, h4, h5, h6, h7⟩ := id hW
  simp (disch := first | omega | assumption | exact rfl) only [U_93_6, XX, QQ, WW, KK, QX, SHs, RRs, Nat.reduceAdd, Nat.reduceMul, Nat.reduceLeDiff, Nat.reduceEqDiff, List.length_cons, List.length_nil, decide_true, decide_false, Bool.true_and, Bool.and_true, Bool.false_and, Bool.and_false, false_and, and_false, Bool.false_eq_true, Bool.true_eq_false, reduceCtorEq, eq_self, if_true, if_false, true_and, and_true, not_true_eq_false, not_false_eq_true, if_pos, if_neg, z_ite_not]
  rw [← tcA_0 (F := F) (g := fillI 96 (-1) (m_I M (W + 3)))]
  refine lp0 (n := pop F) (P := fun i => ∀ u4 : Value, Ev X d 93 7 [.ref W, .long (lN F), .retAddr 0, .int (nI i), u4] [] (MW M W (va_up (m_J M W) 0 (lN F)) (va_up (m_I M W) 1 (nI (pop F))) (fillI 24 (-1) (m_I M (W + 1))) (plA F 64 (m_I M (W + 2))) (tcA F i (fillI 96 (-1) (m_I M (W + 3))))) (none, Wend M W F)) ?_ ?_ u4
  · intro u4
    rw [U_93_7]
    simp (disch := first | omega | assumption | exact rfl) only [U_93_15, XX, QQ, WW, KK, QX, SHs, RRs, Nat.reduceAdd, Nat.reduceMul, Nat.reduceLeDiff, Nat.reduceEqDiff, List.length_cons, List.length_nil, decide_true, decide_false, Bool.true_and, Bool.and_true, Bool.false_and, Bool.and_false, false_and, and_false, Bool.false_eq_true, Bool.true_eq_false, reduceCtorEq, eq_self, if_true, if_false, true_and, and_true, not_true_eq_false, not_false_eq_true, if_pos, if_neg, z_ite_not, MWs, h1]
    rfl
  · intro i hi ih u4
    rw [U_93_7]
    obtain ⟨p1, p2, p3⟩ := pl_spec hi
    have hpl : plA F 64 (m_I M (W + 2)) i = nI (pl F i) := if_pos hi
    have n0 : tch F i 0 = if pl F i % 8 < 7 then atF F (some (pl F i + 1)) else -1 := by simp only [tch, nbp]; split <;> simp only [atF]
    have n1 : tch F i 1 = if 0 < pl F i % 8 then atF F (some (pl F i - 1)) else -1 := by simp only [tch, nbp]; split <;> simp only [atF]
    have n2 : tch F i 2 = atF F (some (pl F i + 8)) := by
      simp only [tch, nbp]; split
      · simp only [atF]
      · next h => simp only [atF]; rw [tb64 hF (by omega)]; simp
    have n3 : tch F i 3 = if 8 ≤ pl F i then atF F (some (pl F i - 8)) else -1 := by simp only [tch, nbp]; split <;> simp only [atF]
    have q := ih
    rw [← tcA_s] at q
    have hWA : ∀ j c f1 f2 f3, WA (MW M W j c f1 f2 f3) W := fun _ _ _ _ _ => hW
    have c1 : ∀ (p : Nat) (f3 : Nat → Int32), p < 2 ^ 31 → callF X d 94 [.ref W, .int (nI p)] (MW M W (va_up (m_J M W) 0 (lN F)) (va_up (m_I M W) 1 (nI (pop F))) (fillI 24 (-1) (m_I M (W + 1))) (plA F 64 (m_I M (W + 2))) f3) = some (some (.int (atF F (some p))), (MW M W (va_up (m_J M W) 0 (lN F)) (va_up (m_I M W) 1 (nI (pop F))) (fillI 24 (-1) (m_I M (W + 1))) (plA F 64 (m_I M (W + 2))) f3)) := fun p f3 hp => s_cellAt hd hW hF (by rw [mw_J, vu_eq]) (by rw [mw_I0, vu_eq]) h24 hp
    have c2 : ∀ (v : Int32) (f3 : Nat → Int32), v < 0 → callF X d 94 [.ref W, .int v] (MW M W (va_up (m_J M W) 0 (lN F)) (va_up (m_I M W) 1 (nI (pop F))) (fillI 24 (-1) (m_I M (W + 1))) (plA F 64 (m_I M (W + 2))) f3) = some (some (.int (-1)), (MW M W (va_up (m_J M W) 0 (lN F)) (va_up (m_I M W) 1 (nI (pop F))) (fillI 24 (-1) (m_I M (W + 1))) (plA F 64 (m_I M (W + 2))) f3)) := fun v f3 hv => s_cellAt_neg (F := F) hd hW (by rw [mw_J, vu_eq]) hv
    rw [n0, n1, n2, n3] at q
    by_cases k0 : pl F i % 8 < 7
    · by_cases k1 : 0 < pl F i % 8
      · by_cases k3 : 8 ≤ pl F i
        · simp (disch := first | omega | assumption | exact rfl) only [U_93_8, U_93_9, U_93_10, U_93_11, U_93_12, U_93_13, U_93_14, XX, QQ, WW, KK, QX, SHs, RRs, Nat.reduceAdd, Nat.reduceMul, Nat.reduceLeDiff, Nat.reduceEqDiff, List.length_cons, List.length_nil, decide_true, decide_false, Bool.true_and, Bool.and_true, Bool.false_and, Bool.and_false, false_and, and_false, Bool.false_eq_true, Bool.true_eq_false, reduceCtorEq, eq_self, if_true, if_false, true_and, and_true, not_true_eq_false, not_false_eq_true, if_pos, if_neg, z_ite_not, MWs, h1, h2, h3, h4, h5, h6, h7, hpl, s_xOf, c1, Nat.add_zero] at q ⊢
          exact q _
        · have hv : nI (pl F i) - nI 8 < 0 := by
            rw [Int32.lt_iff_toInt_lt, fb_subI] <;> rw [nI_toInt (by omega), nI_toInt (by omega)] <;> simp <;> omega
          simp (disch := first | omega | assumption | exact rfl) only [U_93_8, U_93_9, U_93_10, U_93_11, U_93_12, U_93_13, U_93_14, XX, QQ, WW, KK, QX, SHs, RRs, Nat.reduceAdd, Nat.reduceMul, Nat.reduceLeDiff, Nat.reduceEqDiff, List.length_cons, List.length_nil, decide_true, decide_false, Bool.true_and, Bool.and_true, Bool.false_and, Bool.and_false, false_and, and_false, Bool.false_eq_true, Bool.true_eq_false, reduceCtorEq, eq_self, if_true, if_false, true_and, and_true, not_true_eq_false, not_false_eq_true, if_pos, if_neg, z_ite_not, MWs, h1, h2, h3, h4, h5, h6, h7, hpl, s_xOf, c1, c2, Nat.add_zero] at q ⊢
          exact q _
      · have k3 : 8 ≤ pl F i ∨ ¬ 8 ≤ pl F i := by omega
        rcases k3 with k3 | k3
        · simp (disch := first | omega | assumption | exact rfl) only [U_93_8, U_93_9, U_93_10, U_93_11, U_93_12, U_93_13, U_93_14, XX, QQ, WW, KK, QX, SHs, RRs, Nat.reduceAdd, Nat.reduceMul, Nat.reduceLeDiff, Nat.reduceEqDiff, List.length_cons, List.length_nil, decide_true, decide_false, Bool.true_and, Bool.and_true, Bool.false_and, Bool.and_false, false_and, and_false, Bool.false_eq_true, Bool.true_eq_false, reduceCtorEq, eq_self, if_true, if_false, true_and, and_true, not_true_eq_false, not_false_eq_true, if_pos, if_neg, z_ite_not, MWs, h1, h2, h3, h4, h5, h6, h7, hpl, s_xOf, c1, Nat.add_zero] at q ⊢
          exact q _
        · have hv : nI (pl F i) - nI 8 < 0 := by
            rw [Int32.lt_iff_toInt_lt, fb_subI] <;> rw [nI_toInt (by omega), nI_toInt (by omega)] <;> simp <;> omega
          simp (disch := first | omega | assumption | exact rfl) only [U_93_8, U_93_9, U_93_10, U_93_11, U_93_12, U_93_13, U_93_14, XX, QQ, WW, KK, QX, SHs, RRs, Nat.reduceAdd, Nat.reduceMul, Nat.reduceLeDiff, Nat.reduceEqDiff, List.length_cons, List.length_nil, decide_true, decide_false, Bool.true_and, Bool.and_true, Bool.false_and, Bool.and_false, false_and, and_false, Bool.false_eq_true, Bool.true_eq_false, reduceCtorEq, eq_self, if_true, if_false, true_and, and_true, not_true_eq_false, not_false_eq_true, if_pos, if_neg, z_ite_not, MWs, h1, h2, h3, h4, h5, h6, h7, hpl, s_xOf, c1, c2, Nat.add_zero] at q ⊢
          exact q _
    · by_cases k3 : 8 ≤ pl F i
      · simp (disch := first | omega | assumption | exact rfl) only [U_93_8, U_93_9, U_93_10, U_93_11, U_93_12, U_93_13, U_93_14, XX, QQ, WW, KK, QX, SHs, RRs, Nat.reduceAdd, Nat.reduceMul, Nat.reduceLeDiff, Nat.reduceEqDiff, List.length_cons, List.length_nil, decide_true, decide_false, Bool.true_and, Bool.and_true, Bool.false_and, Bool.and_false, false_and, and_false, Bool.false_eq_true, Bool.true_eq_false, reduceCtorEq, eq_self, if_true, if_false, true_and, and_true, not_true_eq_false, not_false_eq_true, if_pos, if_neg, z_ite_not, MWs, h1, h2, h3, h4, h5, h6, h7, hpl, s_xOf, c1, Nat.add_zero] at q ⊢
        exact q _
      · have hv : nI (pl F i) - nI 8 < 0 := by
          rw [Int32.lt_iff_toInt_lt, fb_subI] <;> rw [nI_toInt (by omega), nI_toInt (by omega)] <;> simp <;> omega
        simp (disch := first | omega | assumption | exact rfl) only [U_93_8, U_93_9, U_93_10, U_93_11, U_93_12, U_93_13, U_93_14, XX, QQ, WW, KK, QX, SHs, RRs, Nat.reduceAdd, Nat.reduceMul, Nat.reduceLeDiff, Nat.reduceEqDiff, List.length_cons, List.length_nil, decide_true, decide_false, Bool.true_and, Bool.and_true, Bool.false_and, Bool.and_false, false_and, and_false, Bool.false_eq_true, Bool.true_eq_false, reduceCtorEq, eq_self, if_true, if_false, true_and, and_true, not_true_eq_false, not_false_eq_true, if_pos, if_neg, z_ite_not, MWs, h1, h2, h3, h4, h5, h6, h7, hpl, s_xOf, c1, c2, Nat.add_zero] at q ⊢
        exact q _
theorem s_raise {X : Nat × (Nat → Int32)} {d : Nat} {M : Mem} {W F : Nat} (hd : 4 ≤ d) (hW : WA M W) (hF : F < 2 ^ 64) (h24 : pop F ≤ 24) : callF X d 93 [.ref W, .long (lN F)] M = some (none, Wend M W F) := by
  obtain ⟨h1, h2, h3, h4, h5, h6, h7⟩ := id hW
  refine callF_at (by omega) (by decide) (Nat.le_of_ble_eq_true rfl) (fun d _ => ?_)
  show Ev X d 93 0 [.ref W, .long (lN F), .retAddr 0, .retAddr 0, .retAddr 0] [] M _
  have e0 := @mw_id M W
  refine (congrArg (fun z => Ev X d 93 0 [.ref W, .long (lN F), .retAddr 0, .retAddr 0, .retAddr 0] [] z (none, Wend M W F)) e0).mpr ?_
  have f1 := fun j c g1 g2 g3 => s_fill (X := X) (d := d) (v := -1) (M := MW M W j c g1 g2 g3) (by omega) h5 (by decide)
  have f3 := fun j c g1 g2 g3 => s_fill (X := X) (d := d) (v := -1) (M := MW M W j c g1 g2 g3) (by omega) h7 (by decide)
  simp (disch := first | omega | assumption | exact rfl) only [U_93_0, XX, QQ, WW, KK, QX, SHs, RRs, Nat.reduceAdd, Nat.reduceMul, Nat.reduceLeDiff, Nat.reduceEqDiff, List.length_cons, List.length_nil, decide_true, decide_false, Bool.true_and, Bool.and_true, Bool.false_and, Bool.and_false, false_and, and_false, Bool.false_eq_true, Bool.true_eq_false, reduceCtorEq, eq_self, if_true, if_false, true_and, and_true, not_true_eq_false, not_false_eq_true, if_pos, if_neg, z_ite_not, MWs, h1, h2, h3, h4, h5, h6, h7, f1, f3, vu_vu]
  rw [← plA_0 (F := F) (g := m_I M (W + 2)), show nI 0 = nI (num F 0) from rfl]
  refine lp0 (n := 64) (P := fun p => Ev X d 93 1 [.ref W, .long (lN F), .retAddr 0, .int (nI p), .retAddr 0] [] (MW M W (va_up (m_J M W) 0 (lN F)) (va_up (m_I M W) 1 (nI (num F p))) (fillI 24 (-1) (m_I M (W + 1))) (plA F p (m_I M (W + 2))) (fillI 96 (-1) (m_I M (W + 3)))) (none, Wend M W F)) ?_ ?_
  · rw [U_93_1]
    simp (disch := omega) only [XX, QQ, Nat.reduceLeDiff, if_true]
    exact l_93b (by omega) hW hF h24
  · intro p hp ih
    rw [U_93_1]
    have hle : num F p ≤ pop F := num_mono F (by omega)
    by_cases hn : num F p < 24
    · by_cases ht : F.testBit p = true
      · have e : num F (p + 1) = num F p + 1 := by unfold num; rw [fb_ct_succ, if_pos ht]
        rw [← plA_s hp ht, e] at ih
        simp (disch := first | omega | assumption | exact rfl) only [U_93_2, U_93_3, U_93_4, U_93_5, XX, QQ, WW, KK, QX, SHs, RRs, Nat.reduceAdd, Nat.reduceMul, Nat.reduceLeDiff, Nat.reduceEqDiff, List.length_cons, List.length_nil, decide_true, decide_false, Bool.true_and, Bool.and_true, Bool.false_and, Bool.and_false, false_and, and_false, Bool.false_eq_true, Bool.true_eq_false, reduceCtorEq, eq_self, if_true, if_false, true_and, and_true, not_true_eq_false, not_false_eq_true, if_pos, if_neg, z_ite_not, MWs, h1, h2, h3, h4, h5, h6, h7, s_has, ht, vu_vu]
        exact ih
      · have ht : F.testBit p = false := by simpa using ht
        obtain ⟨e1, e2⟩ := plA_n (g := m_I M (W + 2)) ht
        rw [e1, e2] at ih
        simp (disch := first | omega | assumption | exact rfl) only [U_93_2, U_93_3, U_93_4, U_93_5, XX, QQ, WW, KK, QX, SHs, RRs, Nat.reduceAdd, Nat.reduceMul, Nat.reduceLeDiff, Nat.reduceEqDiff, List.length_cons, List.length_nil, decide_true, decide_false, Bool.true_and, Bool.and_true, Bool.false_and, Bool.and_false, false_and, and_false, Bool.false_eq_true, Bool.true_eq_false, reduceCtorEq, eq_self, if_true, if_false, true_and, and_true, not_true_eq_false, not_false_eq_true, if_pos, if_neg, z_ite_not, MWs, h1, h2, h3, h4, h5, h6, h7, s_has, ht, vu_vu]
        exact ih
    · have e : num F p = pop F := by omega
      have e2 : plA F p (m_I M (W + 2)) = plA F 64 (m_I M (W + 2)) := by unfold plA; rw [e]; rfl
      simp (disch := first | omega | assumption | exact rfl) only [U_93_2, XX, QQ, WW, KK, QX, SHs, RRs, Nat.reduceAdd, Nat.reduceMul, Nat.reduceLeDiff, Nat.reduceEqDiff, List.length_cons, List.length_nil, decide_true, decide_false, Bool.true_and, Bool.and_true, Bool.false_and, Bool.and_false, false_and, and_false, Bool.false_eq_true, Bool.true_eq_false, reduceCtorEq, eq_self, if_true, if_false, true_and, and_true, not_true_eq_false, not_false_eq_true, if_pos, if_neg, z_ite_not, MWs, h1]
      rw [e, e2]
      exact l_93b (by omega) hW hF h24
