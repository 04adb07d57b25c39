/-! ===== who is near: the class's Nearness ===== -/
def NA (N : Nat) : Prop := SH N = (3, 6) ∧ RR N 0 = some (N + 1) ∧ RR N 1 = some (N + 2) ∧ SH (N + 1) = (20, 24) ∧ SH (N + 2) = (20, 4)
def hasO (al : Nat) (mks : Nat → Nat) (x y : Nat) : Prop := x &&& y ≠ 0 ∨ (al = 1 ∧ ∃ c c', x.testBit c = true ∧ y.testBit c' = true ∧ mks c = mks c')
noncomputable def ms (mks : Nat → Nat) (k : Nat) : Nat := bs (fun c => mks c = k)
def LN (I : Nat → Nat → Int32) (N F : Nat) (B : Nat → Int32) (al : Nat) (mks : Nat → Nat) : Prop := (∀ b, b < 24 → I (N + 1) b = nI (nr F B b)) ∧ I N 2 = bI (decide (al = 1)) ∧ (∀ k, k < 4 → I (N + 2) k = nI (ms mks k))
theorem WG_fr {I I' : Nat → Nat → Int32} {J J' : Nat → Nat → Int64} {W F : Nat} (h : WG (mk I J) W F) (hI : ∀ a, W ≤ a → a ≤ W + 3 → I' a = I a) (hJ : J' W = J W) : WG (mk I' J') W F := by
  obtain ⟨h1, hF, h24, hj, hc, hp, ht⟩ := h
  refine ⟨h1, hF, h24, ?_, ?_, ?_, ?_⟩
  · show J' W 0 = _; rw [hJ]; exact hj
  · show I' W 1 = _; rw [hI W (by omega) (by omega)]; exact hc
  · intro i hi; show I' (W + 2) i = _; rw [hI _ (by omega) (by omega)]; exact hp i hi
  · intro i s hi hs; show I' (W + 3) _ = _; rw [hI _ (by omega) (by omega)]; exact ht i s hi hs
noncomputable def nrP (F : Nat) (B : Nat → Int32) (i b : Nat) : Nat := bs (fun c => ∃ i' j, i' < i ∧ j < pop F ∧ B i' = nI b ∧ adj (pl F i') (pl F j) ∧ B j = nI c)
theorem nrP_all {F : Nat} {B : Nat → Int32} {b : Nat} : nrP F B (pop F) b = nr F B b := rfl
theorem nrP_0 {F : Nat} {B : Nat → Int32} {b : Nat} : nrP F B 0 b = 0 := bs_0 (fun c _ => by rintro ⟨i', j, h, _⟩; omega)
theorem nrP_s {F : Nat} {B : Nat → Int32} {i b : Nat} (h : B i ≠ nI b) : nrP F B (i + 1) b = nrP F B i b := bs_ext (fun c _ => by
  constructor
  · rintro ⟨i', j, h1, h2, h3, h4⟩
    by_cases e : i' = i
    · subst e; exact absurd h3 h
    · exact ⟨i', j, by omega, h2, h3, h4⟩
  · rintro ⟨i', j, h1, h2⟩; exact ⟨i', j, by omega, h2⟩)
theorem nrP_at {F : Nat} {B : Nat → Int32} {i b : Nat} (hB : WB B (pop F)) (hi : i < pop F) (hb : b < 24) (e : B i = nI b) : nrP F B (i + 1) b = nbr F B i := bs_ext (fun c _ => by
  constructor
  · rintro ⟨i', j, h1, h2, h3, h4, h5⟩
    have : i' = i := hB.2.1 i' i (by omega) hi (h3.trans e.symm) (by rw [h3]; exact nI_ne (by omega))
    subst this; exact ⟨j, h2, h4, h5⟩
  · rintro ⟨j, h2, h4, h5⟩; exact ⟨i, j, by omega, h2, e, h4, h5⟩)
noncomputable def gN (F : Nat) (B : Nat → Int32) (g : Nat → Int32) (i : Nat) : Nat → Int32 := fun b => if b < 24 then nI (nrP F B i b) else g b
noncomputable def gM (mks : Nat → Nat) (g : Nat → Int32) (k : Nat) : Nat → Int32 := fun m => if m < 4 then nI (bs (fun c => c < k ∧ mks c = m)) else g m
theorem gN_0 {F : Nat} {B : Nat → Int32} {g : Nat → Int32} : gN F B g 0 = fillI 24 (nI 0) g := by funext b; unfold gN fillI; simp only [nrP_0]
theorem gM_0 {mks : Nat → Nat} {g : Nat → Int32} : gM mks g 0 = fillI 4 (nI 0) g := by
  funext b; unfold gM fillI
  rw [bs_0 (fun c _ h => absurd h.1 (by omega))]
theorem gM_s {mks : Nat → Nat} {g : Nat → Int32} {k : Nat} (hk : k < 24) (hm : mks k < 4) : va_up (gM mks g k) (mks k) (nI (bs (fun c => c < k ∧ mks c = mks k) ||| 2 ^ k)) = gM mks g (k + 1) := by
  funext m; unfold va_up gM
  by_cases h : m = mks k
  · subst h
    rw [if_pos rfl, if_pos hm, bs_ins hk]
    congr 1
    apply bs_ext
    intro c _
    constructor
    · rintro (⟨h1, h2⟩ | rfl)
      · exact ⟨by omega, h2⟩
      · exact ⟨by omega, rfl⟩
    · rintro ⟨h1, h2⟩
      by_cases e : c = k
      · exact .inr e
      · exact .inl ⟨by omega, h2⟩
  · rw [if_neg h]
    by_cases h4 : m < 4
    · rw [if_pos h4, if_pos h4]
      congr 1
      apply bs_ext
      intro c _
      constructor
      · rintro ⟨h1, h2⟩; exact ⟨by omega, h2⟩
      · rintro ⟨h1, h2⟩
        by_cases e : c = k
        · subst e; exact absurd h2.symm h
        · exact ⟨by omega, h2⟩
    · rw [if_neg h4, if_neg h4]
noncomputable def Ilrn (I : Nat → Nat → Int32) (N F : Nat) (B : Nat → Int32) (al : Nat) (mks : Nat → Nat) : Nat → Nat → Int32 := va_up (va_up (va_up I (N + 1) (gN F B (I (N + 1)) (pop F))) N (va_up (I N) 2 (bI (decide (al = 1))))) (N + 2) (gM mks (I (N + 2)) 24)
theorem Ilrn_LN {I : Nat → Nat → Int32} {N F : Nat} {B : Nat → Int32} {al : Nat} {mks : Nat → Nat} : LN (Ilrn I N F B al mks) N F B al mks := by
  refine ⟨fun b hb => ?_, ?_, fun k hk => ?_⟩
  · unfold Ilrn; rw [vu_ne (by omega), vu_ne (by omega), vu_eq]; unfold gN; rw [if_pos hb]; rfl
  · unfold Ilrn; rw [vu_ne (by omega), vu_eq, vu_eq]
  · unfold Ilrn; rw [vu_eq]; unfold gM; rw [if_pos hk]
    congr 1
    exact bs_ext (fun c hc => ⟨fun z => z.2, fun z => ⟨hc, z⟩⟩)
theorem Ilrn_fr {I : Nat → Nat → Int32} {N F : Nat} {B : Nat → Int32} {al : Nat} {mks : Nat → Nat} {a : Nat} (h : a < N ∨ N + 2 < a) : Ilrn I N F B al mks a = I a := by
  unfold Ilrn; rw [vu_ne (by omega), vu_ne (by omega), vu_ne (by omega)]
theorem s_learn {X : Nat × (Nat → Int32)} {d : Nat} {I : Nat → Nat → Int32} {J : Nat → Nat → Int64} {N W F : Nat} {al : Nat} {mks : Nat → Nat} (hd : 2 ≤ d) (hN : NA N) (h3 : 2 < N) (hW : WG (mk I J) W F) (hNW : W + 3 < N ∨ N + 2 < W) (hB : WB (I (W + 1)) (pop F)) (hal : I 1 1 = nI al) (hal2 : al < 2) (hm : ∀ k, k < 24 → I 2 k = nI (mks k)) (hm4 : ∀ k, k < 24 → mks k < 4) :
    callF X d 37 [.ref N, .ref W, .ref 1] (mk I J) = some (none, mk (Ilrn I N F (I (W + 1)) al mks) J) := by
  obtain ⟨n1, n2, n3, n4, n5⟩ := id hN
  obtain ⟨⟨h1, h2, h3', h4, h5, h6, h7⟩, hF, h24, hj, hc, hp, ht⟩ := id hW
  rw [k_sh] at h1 h5 h6 h7
  rw [k_R] at h2 h3' h4
  rw [k_I] at hc
  refine callF_at (by omega) (by decide) (Nat.le_of_ble_eq_true rfl) (fun d _ => ?_)
  show Ev X d 37 0 [.ref N, .ref W, .ref 1, .retAddr 0] [] (mk I J) _
  have f1 := s_fill (X := X) (d := d) (v := nI 0) (M := mk I J) (by omega) n4 (by decide)
  simp (disch := first | omega | assumption | exact rfl) only [U_37_0, XX, QQ, WW, KK, QX, SHs, RRs, Nat.reduceAdd, Nat.reduceMul, Nat.reduceLeDiff, Nat.reduceEqDiff, List.length_cons, List.length_nil, decide_true, decide_false, Bool.true_and, Bool.and_true, Bool.false_and, Bool.and_false, false_and, and_false, Bool.false_eq_true, Bool.true_eq_false, reduceCtorEq, eq_self, if_true, if_false, true_and, and_true, not_true_eq_false, not_false_eq_true, if_pos, if_neg, z_ite_not, n1, n2, n4, f1]
  obtain ⟨B, hBe⟩ : ∃ B, B = I (W + 1) := ⟨_, rfl⟩
  rw [← hBe] at hB ⊢
  refine lpI (n := pop F) (P := fun i => Ev X d 37 1 [.ref N, .ref W, .ref 1, .int (nI i)] [] (mk (va_up I (N + 1) (gN F B (I (N + 1)) i)) J) (none, mk (Ilrn I N F B al mks) J)) ?_ ?_ (fun L => by rw [gN_0] at L; exact L)
  · rw [U_37_1]
    have f2 := fun G => s_fill (X := X) (d := d) (v := nI 0) (a := N + 2) (M := mk G J) (by omega) n5 (by decide)
    have ha : decide (al = 1) = true ∨ decide (al = 1) = false := by cases decide (al = 1) <;> simp
    have g1 : Ev X d 37 9 [.ref N, .ref W, .ref 1, .int (nI 0)] [] (mk (va_up (va_up (va_up I (N + 1) (gN F B (I (N + 1)) (pop F))) N (va_up (I N) 2 (bI (decide (al = 1))))) (N + 2) (fillI 4 (nI 0) (I (N + 2)))) J) (none, mk (Ilrn I N F B al mks) J) := by
      refine lpI (n := 24) (P := fun k => Ev X d 37 9 [.ref N, .ref W, .ref 1, .int (nI k)] [] (mk (va_up (va_up (va_up I (N + 1) (gN F B (I (N + 1)) (pop F))) N (va_up (I N) 2 (bI (decide (al = 1))))) (N + 2) (gM mks (I (N + 2)) k)) J) (none, mk (Ilrn I N F B al mks) J)) ?_ ?_ (fun L => by rw [gM_0] at L; exact L)
      · rw [U_37_9]
        simp (disch := first | omega | assumption | exact rfl) only [U_37_13, XX, QQ, WW, KK, QX, SHs, RRs, Nat.reduceAdd, Nat.reduceMul, Nat.reduceLeDiff, Nat.reduceEqDiff, List.length_cons, List.length_nil, decide_true, decide_false, Bool.true_and, Bool.and_true, Bool.false_and, Bool.and_false, false_and, and_false, Bool.false_eq_true, Bool.true_eq_false, reduceCtorEq, eq_self, if_true, if_false, true_and, and_true, not_true_eq_false, not_false_eq_true, if_pos, if_neg, z_ite_not]
        rfl
      · intro k hk ih
        rw [U_37_9]
        have m1 := hm k hk
        have m2 := hm4 k hk
        have m3 : gM mks (I (N + 2)) k (mks k) = nI (bs (fun c => c < k ∧ mks c = mks k)) := if_pos m2
        rw [← gM_s hk m2] at ih
        simp (disch := first | omega | assumption | exact rfl) only [U_37_10, U_37_11, U_37_12, XX, QQ, WW, KK, QX, SHs, RRs, Nat.reduceAdd, Nat.reduceMul, Nat.reduceLeDiff, Nat.reduceEqDiff, List.length_cons, List.length_nil, decide_true, decide_false, Bool.true_and, Bool.and_true, Bool.false_and, Bool.and_false, false_and, and_false, Bool.false_eq_true, Bool.true_eq_false, reduceCtorEq, eq_self, if_true, if_false, true_and, and_true, not_true_eq_false, not_false_eq_true, if_pos, if_neg, z_ite_not, n1, n2, n3, n4, n5, s_isOf, m1, m3, fa_or]
        exact ih
    by_cases h : al = 1
    · subst h
      simp (disch := first | omega | assumption | exact rfl) only [U_37_5, U_37_6, U_37_7, U_37_8, XX, QQ, WW, KK, QX, SHs, RRs, Nat.reduceAdd, Nat.reduceMul, Nat.reduceLeDiff, Nat.reduceEqDiff, List.length_cons, List.length_nil, decide_true, decide_false, Bool.true_and, Bool.and_true, Bool.false_and, Bool.and_false, false_and, and_false, Bool.false_eq_true, Bool.true_eq_false, reduceCtorEq, eq_self, if_true, if_false, true_and, and_true, not_true_eq_false, not_false_eq_true, if_pos, if_neg, z_ite_not, n1, n2, n3, n4, n5, h1, hc, hal, f2]
      simp only [decide_true] at g1
      exact g1
    · have : al = 0 := by omega
      subst this
      simp (disch := first | omega | assumption | exact rfl) only [U_37_5, U_37_6, U_37_7, U_37_8, XX, QQ, WW, KK, QX, SHs, RRs, Nat.reduceAdd, Nat.reduceMul, Nat.reduceLeDiff, Nat.reduceEqDiff, List.length_cons, List.length_nil, decide_true, decide_false, Bool.true_and, Bool.and_true, Bool.false_and, Bool.and_false, false_and, and_false, Bool.false_eq_true, Bool.true_eq_false, reduceCtorEq, eq_self, if_true, if_false, true_and, and_true, not_true_eq_false, not_false_eq_true, if_pos, if_neg, z_ite_not, n1, n2, n3, n4, n5, h1, hc, hal, f2]
      simp only [Nat.zero_ne_one, decide_false] at g1
      exact g1
  · intro i hi ih
    rw [U_37_1]
    rcases hB.1 i hi with z | ⟨b, hb, z⟩
    · have e : gN F B (I (N + 1)) (i + 1) = gN F B (I (N + 1)) i := by
        funext b; unfold gN
        by_cases h : b < 24
        · rw [if_pos h, if_pos h, nrP_s]
          rw [z]; exact (nI_ne (by omega)).symm
        · rw [if_neg h, if_neg h]
      rw [e] at ih
      rw [hBe] at z
      simp (disch := first | omega | assumption | exact rfl) only [U_37_2, U_37_3, U_37_4, XX, QQ, WW, KK, QX, SHs, RRs, Nat.reduceAdd, Nat.reduceMul, Nat.reduceLeDiff, Nat.reduceEqDiff, List.length_cons, List.length_nil, decide_true, decide_false, Bool.true_and, Bool.and_true, Bool.false_and, Bool.and_false, false_and, and_false, Bool.false_eq_true, Bool.true_eq_false, reduceCtorEq, eq_self, if_true, if_false, true_and, and_true, not_true_eq_false, not_false_eq_true, if_pos, if_neg, z_ite_not, n1, n2, n4, h1, h2, h5, hc, s_isOf, z]
      exact ih
    · have e : va_up (gN F B (I (N + 1)) i) b (nI (nbr F B i)) = gN F B (I (N + 1)) (i + 1) := by
        funext b'; unfold va_up gN
        by_cases h : b' = b
        · subst h; rw [if_pos rfl, if_pos hb, nrP_at hB hi hb z]
        · rw [if_neg h]
          by_cases h' : b' < 24
          · rw [if_pos h', if_pos h', nrP_s]
            rw [z]; exact fun q => h (nI_inj (by omega) (by omega) q.symm)
          · rw [if_neg h', if_neg h']
      rw [← e] at ih
      have hW1 : WG (mk (va_up I (N + 1) (gN F B (I (N + 1)) i)) J) W F := WG_fr hW (fun a h1 h2 => vu_ne (by omega)) rfl
      have hB1 : va_up I (N + 1) (gN F B (I (N + 1)) i) (W + 1) = B := by rw [vu_ne (by omega), hBe]
      have sb := s_besideOf (X := X) (d := d) (i := i) (by omega) hW1 (by show WB (va_up I _ _ (W + 1)) _; rw [hB1]; exact hB) hi
      rw [k_I, hB1] at sb
      rw [hBe] at z
      simp (disch := first | omega | assumption | exact rfl) only [U_37_2, U_37_3, U_37_4, XX, QQ, WW, KK, QX, SHs, RRs, Nat.reduceAdd, Nat.reduceMul, Nat.reduceLeDiff, Nat.reduceEqDiff, List.length_cons, List.length_nil, decide_true, decide_false, Bool.true_and, Bool.and_true, Bool.false_and, Bool.and_false, false_and, and_false, Bool.false_eq_true, Bool.true_eq_false, reduceCtorEq, eq_self, if_true, if_false, true_and, and_true, not_true_eq_false, not_false_eq_true, if_pos, if_neg, z_ite_not, n1, n2, n4, h1, h2, h5, hc, s_isOf, z, sb]
      exact ih
