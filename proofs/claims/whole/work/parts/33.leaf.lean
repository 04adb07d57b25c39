/-! ===== leaves ===== -/
theorem s_isOf {X : Nat × (Nat → Int32)} {d : Nat} {M : Mem} {v b : Int32} (hd : 1 ≤ d) : callF X d 152 [.int v, .int b] M = some (some (.int (bI (decide (0 ≤ v) && decide (v < b)))), M) := by
  refine callF_at (by omega) (by decide) (Nat.le_of_ble_eq_true rfl) (fun d _ => ?_)
  show Ev X d 152 0 [.int v, .int b] [] M _
  simp (disch := omega) only [U_152_0, U_152_1, U_152_2, U_152_3, U_152_4, XX, QQ, WW, Nat.reduceAdd, eq_self, if_true, if_false, true_and, and_true, not_true_eq_false, not_false_eq_true, if_pos, if_neg, z_ite_not]
  by_cases h1 : v < 0
  · rw [if_pos h1, decide_eq_false (fun z => fa_of_nlt (fun q => (fa_of_lt q).2.1 z) |> fun w => (fa_of_lt h1).2.1 z)]; rfl
  · rw [if_neg h1, decide_eq_true (fa_of_nlt h1)]
    by_cases h2 : b ≤ v
    · rw [if_pos h2, decide_eq_false (fun z => (fa_of_lt z).2.1 h2)]; rfl
    · rw [if_neg h2, decide_eq_true (fa_of_nle h2)]; rfl
/-- the first place from i on, k places -/
def fstI (f : Nat → Int32) (b : Int32) : Nat → Nat → Int32
  | 0, _ => -1
  | k + 1, i => if f i = b then nI i else fstI f b k (i + 1)
def WA (M : Mem) (W : Nat) : Prop := m_sh M W = (9, 5) ∧ m_R M W 2 = some (W + 1) ∧ m_R M W 3 = some (W + 2) ∧ m_R M W 4 = some (W + 3) ∧ m_sh M (W + 1) = (20, 24) ∧ m_sh M (W + 2) = (20, 24) ∧ m_sh M (W + 3) = (20, 96)
theorem l_99 {X : Nat × (Nat → Int32)} {d : Nat} {M : Mem} {W c : Nat} {b : Int32} (hW : WA M W) (hc : m_I M W 1 = nI c) (h24 : c ≤ 24) : ∀ k i, i + k = c → Ev X d 99 1 [.ref W, .int b, .int (nI i)] [] M (some (.int (fstI (m_I M (W + 1)) b k i)), M) := by
  obtain ⟨h1, h2, h3, h4, h5, h6, h7⟩ := hW
  intro k
  induction k with
  | zero =>
    intro i hi
    rw [U_99_1]
    simp (disch := omega) only [U_99_5, XX, QQ, WW, Nat.reduceAdd, eq_self, if_true, if_false, true_and, and_true, not_true_eq_false, not_false_eq_true, if_pos, if_neg, z_ite_not, h1, hc, fstI]
  | succ k ih =>
    intro i hi
    rw [U_99_1]
    simp (disch := omega) only [U_99_2, U_99_3, U_99_4, XX, QQ, WW, Nat.reduceAdd, eq_self, if_true, if_false, true_and, and_true, not_true_eq_false, not_false_eq_true, if_pos, if_neg, z_ite_not, h1, h2, h5, hc, z_ite_not, fstI]
    split
    · trivial
    · exact ih _ (by omega)
theorem s_cellOf {X : Nat × (Nat → Int32)} {d : Nat} {M : Mem} {W c : Nat} {b : Int32} (hd : 1 ≤ d) (hW : WA M W) (hc : m_I M W 1 = nI c) (h24 : c ≤ 24) : callF X d 99 [.ref W, .int b] M = some (some (.int (fstI (m_I M (W + 1)) b c 0)), M) := by
  refine callF_at (by omega) (by decide) (Nat.le_of_ble_eq_true rfl) (fun d _ => ?_)
  show Ev X d 99 0 [.ref W, .int b, .retAddr 0] [] M _
  simp (disch := omega) only [U_99_0, XX, QQ, WW, Nat.reduceAdd, eq_self, if_true, if_false, true_and, and_true, not_true_eq_false, not_false_eq_true, if_pos, if_neg, z_ite_not]
  exact l_99 hW hc h24 c 0 (by omega)
/-- an int against a count: inside, below, or above -/
theorem of_c (v : Int32) (c : Nat) (hc : c < 2 ^ 31) : (∃ j, j < c ∧ v = nI j) ∨ (v < 0 ∧ ¬ 0 ≤ v) ∨ (¬ v < 0 ∧ 0 ≤ v ∧ nI c ≤ v ∧ ¬ v < nI c) := by
  by_cases h : v < 0
  · exact .inr (.inl ⟨h, fun z => (fa_of_lt h).2.1 z⟩)
  · by_cases h2 : nI c ≤ v
    · exact .inr (.inr ⟨h, fa_of_nlt h, h2, fun z => (fa_of_lt z).2.1 h2⟩)
    · obtain ⟨j, hj, rfl⟩ := nI_of h
      refine .inl ⟨j, ?_, rfl⟩
      rw [nI_leI hc hj] at h2
      omega
def brI (b : Nat → Int32) (c : Nat) (v : Int32) : Int32 := if 0 ≤ v ∧ v < nI c then b v.toNatClampNeg else -1
theorem brI_in {b : Nat → Int32} {c j : Nat} (h : j < c) (hc : c < 2 ^ 31) : brI b c (nI j) = b j := by
  unfold brI; rw [if_pos ⟨nI_pos' (by omega), nI_lt h hc⟩, nI_clamp (by omega)]
theorem brI_m {b : Nat → Int32} {c : Nat} : brI b c (-1) = -1 := by
  unfold brI; rw [if_neg (fun z => absurd z.1 (by decide +kernel))]
theorem s_brickIn {X : Nat × (Nat → Int32)} {d : Nat} {M : Mem} {W c : Nat} {v : Int32} (hd : 1 ≤ d) (hW : WA M W) (hc : m_I M W 1 = nI c) (h24 : c ≤ 24) : callF X d 96 [.ref W, .int v] M = some (some (.int (brI (m_I M (W + 1)) c v)), M) := by
  obtain ⟨h1, h2, h3, h4, h5, h6, h7⟩ := hW
  refine callF_at (by omega) (by decide) (Nat.le_of_ble_eq_true rfl) (fun d _ => ?_)
  show Ev X d 96 0 [.ref W, .int v] [] M _
  unfold brI
  rcases of_c v c (by omega) with ⟨j, hj, rfl⟩ | ⟨a1, a2⟩ | ⟨a1, a2, a3, a4⟩
  · simp (disch := omega) only [U_96_0, U_96_1, U_96_2, U_96_3, U_96_4, XX, QQ, WW, Nat.reduceAdd, eq_self, if_true, if_false, true_and, and_true, not_true_eq_false, not_false_eq_true, if_pos, if_neg, z_ite_not, h1, h2, h5, hc]
  · simp (disch := omega) only [U_96_0, U_96_1, U_96_2, U_96_3, U_96_4, XX, QQ, WW, Nat.reduceAdd, eq_self, if_true, if_false, true_and, and_true, not_true_eq_false, not_false_eq_true, if_pos, if_neg, z_ite_not, h1, h2, h5, hc, a1, a2, false_and]
  · simp (disch := omega) only [U_96_0, U_96_1, U_96_2, U_96_3, U_96_4, XX, QQ, WW, Nat.reduceAdd, eq_self, if_true, if_false, true_and, and_true, not_true_eq_false, not_false_eq_true, if_pos, if_neg, z_ite_not, h1, h2, h5, hc, a1, a2, a3, a4, and_false]
def bsI (t : Nat → Int32) (c : Nat) (v s : Int32) : Int32 := if (0 ≤ v ∧ v < nI c) ∧ (0 ≤ s ∧ s < 4) then t (4 * v.toNatClampNeg + s.toNatClampNeg) else -1
theorem s_cellBeside {X : Nat × (Nat → Int32)} {d : Nat} {M : Mem} {W c : Nat} {v : Int32} {s : Nat} (hd : 2 ≤ d) (hW : WA M W) (hc : m_I M W 1 = nI c) (h24 : c ≤ 24) (hs : s < 4) : callF X d 97 [.ref W, .int v, .int (nI s)] M = some (some (.int (if 0 ≤ v ∧ v < nI c then m_I M (W + 3) (4 * v.toNatClampNeg + s) else -1)), M) := by
  obtain ⟨h1, h2, h3, h4, h5, h6, h7⟩ := hW
  refine callF_at (by omega) (by decide) (Nat.le_of_ble_eq_true rfl) (fun d _ => ?_)
  show Ev X d 97 0 [.ref W, .int v, .int (nI s)] [] M _
  rcases of_c v c (by omega) with ⟨j, hj, rfl⟩ | ⟨a1, a2⟩ | ⟨a1, a2, a3, a4⟩
  · simp (disch := omega) only [U_97_0, U_97_1, U_97_2, U_97_3, U_97_4, XX, QQ, WW, Nat.reduceAdd, eq_self, if_true, if_false, true_and, and_true, not_true_eq_false, not_false_eq_true, if_pos, if_neg, z_ite_not, h1, h4, h7, hc, s_isOf, decide_true, Bool.and_true, List.length_nil, decide_eq_false_iff_not, Nat.mul_comm]
  · simp (disch := omega) only [U_97_0, U_97_1, U_97_2, U_97_3, U_97_4, XX, QQ, WW, Nat.reduceAdd, eq_self, if_true, if_false, true_and, and_true, not_true_eq_false, not_false_eq_true, if_pos, if_neg, z_ite_not, h1, h4, h7, hc, s_isOf, a1, a2, false_and, decide_false, Bool.false_and, List.length_nil]
  · simp (disch := omega) only [U_97_0, U_97_1, U_97_2, U_97_3, U_97_4, XX, QQ, WW, Nat.reduceAdd, eq_self, if_true, if_false, true_and, and_true, not_true_eq_false, not_false_eq_true, if_pos, if_neg, z_ite_not, h1, h4, h7, hc, s_isOf, a1, a2, a3, a4, and_false, decide_false, Bool.and_false, List.length_nil]
/-- is there a brick -/
def isB (b : Nat → Int32) (i : Nat) : Bool := decide (¬ b i = -1)
theorem l_100 {X : Nat × (Nat → Int32)} {d : Nat} {M : Mem} {W c : Nat} (hW : WA M W) (hc : m_I M W 1 = nI c) (h24 : c ≤ 24) : ∀ k i, i + k = c → Ev X d 100 1 [.ref W, .int (nI (fb_ct (isB (m_I M (W + 1))) i)), .int (nI i)] [] M (some (.int (nI (fb_ct (isB (m_I M (W + 1))) c))), M) := by
  obtain ⟨h1, h2, h3, h4, h5, h6, h7⟩ := hW
  intro k
  induction k with
  | zero =>
    intro i hi
    rw [U_100_1]
    have : i = c := by omega
    subst this
    simp (disch := omega) only [U_100_5, XX, QQ, WW, Nat.reduceAdd, eq_self, if_true, if_false, true_and, and_true, not_true_eq_false, not_false_eq_true, if_pos, if_neg, z_ite_not, h1, hc]
  | succ k ih =>
    intro i hi
    rw [U_100_1]
    simp (disch := omega) only [U_100_2, U_100_3, U_100_4, XX, QQ, WW, Nat.reduceAdd, eq_self, if_true, if_false, true_and, and_true, not_true_eq_false, not_false_eq_true, if_pos, if_neg, z_ite_not, h1, h2, h5, hc]
    have q := ih (i + 1) (by omega)
    rw [fb_ct_succ] at q
    split
    · next h => simpa only [isB, h, eq_self, not_true_eq_false, decide_false, Bool.false_eq_true, if_false, Nat.add_zero] using q
    · next h => simpa only [isB, h, not_false_eq_true, decide_true, if_true] using q
theorem s_bricksIn {X : Nat × (Nat → Int32)} {d : Nat} {M : Mem} {W c : Nat} (hd : 1 ≤ d) (hW : WA M W) (hc : m_I M W 1 = nI c) (h24 : c ≤ 24) : callF X d 100 [.ref W] M = some (some (.int (nI (fb_ct (isB (m_I M (W + 1))) c))), M) := by
  refine callF_at (by omega) (by decide) (Nat.le_of_ble_eq_true rfl) (fun d _ => ?_)
  show Ev X d 100 0 [.ref W, .retAddr 0, .retAddr 0] [] M _
  simp (disch := omega) only [U_100_0, XX, QQ, WW, Nat.reduceAdd, eq_self, if_true, if_false, true_and, and_true, not_true_eq_false, not_false_eq_true, if_pos, if_neg, z_ite_not]
  exact l_100 hW hc h24 c 0 (by omega)
/-- what lies beside cell i, sides s .. -/
def bsS (t b : Nat → Int32) (c i : Nat) : Nat → Int32
  | 0 => 0
  | s + 1 => if 0 ≤ t (4 * i + s) ∧ t (4 * i + s) < nI c ∧ ¬ b (t (4 * i + s)).toNatClampNeg = -1 then bsS t b c i s ||| nI 1 <<< (b (t (4 * i + s)).toNatClampNeg &&& 31) else bsS t b c i s
theorem l_98 {X : Nat × (Nat → Int32)} {d : Nat} {M : Mem} {W c i : Nat} (hW : WA M W) (hc : m_I M W 1 = nI c) (h24 : c ≤ 24) (hi : i < c) : ∀ k s (u : Value), s + k = 4 → Ev X d 98 1 [.ref W, .int (nI i), .int (bsS (m_I M (W + 3)) (m_I M (W + 1)) c i s), .int (nI s), u] [] M (some (.int (bsS (m_I M (W + 3)) (m_I M (W + 1)) c i 4)), M) := by
  obtain ⟨h1, h2, h3, h4, h5, h6, h7⟩ := hW
  intro k
  induction k with
  | zero =>
    intro s u hs
    have : s = 4 := by omega
    subst this
    rw [U_98_1]
    simp (disch := omega) only [U_98_9, XX, QQ, WW, Nat.reduceAdd, eq_self, if_true, if_false, true_and, and_true, not_true_eq_false, not_false_eq_true, if_pos, if_neg, z_ite_not]
  | succ k ih =>
    intro s u hs
    rw [U_98_1]
    have e4 : i * 4 = 4 * i := Nat.mul_comm i 4
    have q := fun u => ih (s + 1) u (by omega)
    rcases of_c (m_I M (W + 3) (4 * i + s)) c (by omega) with ⟨j, hj, e⟩ | ⟨a1, a2⟩ | ⟨a1, a2, a3, a4⟩
    · rw [bsS, e] at q
      simp (disch := omega) only [U_98_2, U_98_3, U_98_4, U_98_5, U_98_6, U_98_7, U_98_8, XX, QQ, WW, Nat.reduceAdd, eq_self, if_true, if_false, true_and, and_true, not_true_eq_false, not_false_eq_true, if_pos, if_neg, z_ite_not, h1, h2, h4, h5, h7, hc, e4, e]
      simp (disch := omega) only [QQ, true_and] at q
      by_cases h : m_I M (W + 1) j = -1
      · simp only [h, not_true_eq_false, if_false, if_true] at q ⊢
        exact q _
      · simp only [h, not_false_eq_true, if_false, if_true] at q ⊢
        exact q _
    · rw [bsS] at q
      simp only [a2, false_and, if_false] at q
      simp (disch := omega) only [U_98_2, U_98_3, U_98_4, U_98_5, U_98_6, U_98_7, U_98_8, XX, QQ, WW, Nat.reduceAdd, eq_self, if_true, if_false, true_and, and_true, not_true_eq_false, not_false_eq_true, if_pos, if_neg, z_ite_not, h1, h2, h4, h5, h7, hc, e4, a1]
      exact q _
    · rw [bsS] at q
      simp only [a4, false_and, and_false, if_false] at q
      simp (disch := omega) only [U_98_2, U_98_3, U_98_4, U_98_5, U_98_6, U_98_7, U_98_8, XX, QQ, WW, Nat.reduceAdd, eq_self, if_true, if_false, true_and, and_true, not_true_eq_false, not_false_eq_true, if_pos, if_neg, z_ite_not, h1, h2, h4, h5, h7, hc, e4, a1, a3]
      exact q _
theorem s_besideOf {X : Nat × (Nat → Int32)} {d : Nat} {M : Mem} {W c i : Nat} (hd : 1 ≤ d) (hW : WA M W) (hc : m_I M W 1 = nI c) (h24 : c ≤ 24) (hi : i < c) : callF X d 98 [.ref W, .int (nI i)] M = some (some (.int (bsS (m_I M (W + 3)) (m_I M (W + 1)) c i 4)), M) := by
  refine callF_at (by omega) (by decide) (Nat.le_of_ble_eq_true rfl) (fun d _ => ?_)
  show Ev X d 98 0 [.ref W, .int (nI i), .retAddr 0, .retAddr 0, .retAddr 0] [] M _
  simp (disch := omega) only [U_98_0, XX, QQ, WW, Nat.reduceAdd, eq_self, if_true, if_false, true_and, and_true, not_true_eq_false, not_false_eq_true, if_pos, if_neg, z_ite_not]
  exact l_98 hW hc h24 hi 4 0 _ (by omega)
/-- the set of filled places -/
def flP (p b : Nat → Int32) : Nat → Int64
  | 0 => lN 0
  | i + 1 => if b i = -1 then flP p b i else flP p b i ||| lN 1 <<< ((p i).toInt64 &&& 63)
theorem l_102 {X : Nat × (Nat → Int32)} {d : Nat} {M : Mem} {W c : Nat} (hW : WA M W) (hc : m_I M W 1 = nI c) (h24 : c ≤ 24) : ∀ k i, i + k = c → Ev X d 102 1 [.ref W, .long (flP (m_I M (W + 2)) (m_I M (W + 1)) i), .retAddr 0, .int (nI i)] [] M (some (.long (flP (m_I M (W + 2)) (m_I M (W + 1)) c)), M) := by
  obtain ⟨h1, h2, h3, h4, h5, h6, h7⟩ := hW
  intro k
  induction k with
  | zero =>
    intro i hi
    have : i = c := by omega
    subst this
    rw [U_102_1]
    simp (disch := omega) only [U_102_5, XX, QQ, WW, Nat.reduceAdd, eq_self, if_true, if_false, true_and, and_true, not_true_eq_false, not_false_eq_true, if_pos, if_neg, z_ite_not, h1, hc]
  | succ k ih =>
    intro i hi
    rw [U_102_1]
    have q := ih (i + 1) (by omega)
    rw [flP] at q
    simp (disch := omega) only [U_102_2, U_102_3, U_102_4, XX, QQ, WW, Nat.reduceAdd, eq_self, if_true, if_false, true_and, and_true, not_true_eq_false, not_false_eq_true, if_pos, if_neg, z_ite_not, h1, h2, h3, h5, h6, hc]
    split
    · next h => simpa only [h, if_true] using q
    · next h => simpa only [h, if_false] using q
theorem s_filled {X : Nat × (Nat → Int32)} {d : Nat} {M : Mem} {W c : Nat} (hd : 1 ≤ d) (hW : WA M W) (hc : m_I M W 1 = nI c) (h24 : c ≤ 24) : callF X d 102 [.ref W] M = some (some (.long (flP (m_I M (W + 2)) (m_I M (W + 1)) c)), M) := by
  refine callF_at (by omega) (by decide) (Nat.le_of_ble_eq_true rfl) (fun d _ => ?_)
  show Ev X d 102 0 [.ref W, .retAddr 0, .retAddr 0, .retAddr 0] [] M _
  simp (disch := omega) only [U_102_0, XX, QQ, WW, Nat.reduceAdd, eq_self, if_true, if_false, true_and, and_true, not_true_eq_false, not_false_eq_true, if_pos, if_neg, z_ite_not]
  exact l_102 hW hc h24 c 0 (by omega)
def swp (b : Nat → Int32) (i j : Nat) : Nat → Int32 := va_up (va_up b i (b j)) j (b i)
theorem s_exchange {X : Nat × (Nat → Int32)} {d : Nat} {M : Mem} {W c i j : Nat} (hd : 2 ≤ d) (hW : WA M W) (hc : m_I M W 1 = nI c) (h24 : c ≤ 24) (hi : i < c) (hj : j < c) : callF X d 103 [.ref W, .int (nI i), .int (nI j)] M = some (none, m_rI M (W + 1) (swp (m_I M (W + 1)) i j)) := by
  obtain ⟨h1, h2, h3, h4, h5, h6, h7⟩ := hW
  refine callF_at (by omega) (by decide) (Nat.le_of_ble_eq_true rfl) (fun d _ => ?_)
  show Ev X d 103 0 [.ref W, .int (nI i), .int (nI j), .retAddr 0] [] M _
  simp (disch := omega) only [U_103_0, U_103_1, U_103_2, U_103_3, XX, QQ, WW, Nat.reduceAdd, eq_self, if_true, if_false, true_and, and_true, not_true_eq_false, not_false_eq_true, if_pos, if_neg, z_ite_not, h1, h2, h5, hc, s_isOf, decide_true, Bool.and_true, List.length_nil, List.length_cons, decide_eq_false_iff_not, swp]
/-- cell i with those that touch it, as a set of cells -/
def wtS (t : Nat → Int32) (i : Nat) : Nat → Int32
  | 0 => nI 1 <<< (nI i &&& 31)
  | s + 1 => wtS t i s ||| (if t (4 * i + s) = -1 then nI 0 else nI 1 <<< (t (4 * i + s) &&& 31))
theorem l_104 {X : Nat × (Nat → Int32)} {d : Nat} {M : Mem} {W c i : Nat} (hW : WA M W) (hc : m_I M W 1 = nI c) (h24 : c ≤ 24) (hi : i < c) : ∀ k s (u : Value), s + k = 4 → Ev X d 104 3 [.ref W, .int (nI i), .int (wtS (m_I M (W + 3)) i s), .int (nI s), u] [] M (some (.int (wtS (m_I M (W + 3)) i 4)), M) := by
  obtain ⟨h1, h2, h3, h4, h5, h6, h7⟩ := hW
  intro k
  induction k with
  | zero =>
    intro s u hs
    have : s = 4 := by omega
    subst this
    rw [U_104_3]
    simp (disch := omega) only [U_104_8, XX, QQ, WW, Nat.reduceAdd, eq_self, if_true, if_false, true_and, and_true, not_true_eq_false, not_false_eq_true, if_pos, if_neg, z_ite_not]
  | succ k ih =>
    intro s u hs
    rw [U_104_3]
    have e4 : i * 4 = 4 * i := Nat.mul_comm i 4
    have q := fun u => ih (s + 1) u (by omega)
    rw [wtS] at q
    simp (disch := omega) only [U_104_4, U_104_5, U_104_6, U_104_7, XX, QQ, WW, Nat.reduceAdd, eq_self, if_true, if_false, true_and, and_true, not_true_eq_false, not_false_eq_true, if_pos, if_neg, z_ite_not, h1, h4, h7, hc, e4]
    split
    · next h => simp only [h, if_true] at q; exact q _
    · next h => simp only [h, if_false] at q; exact q _
theorem s_withTouching {X : Nat × (Nat → Int32)} {d : Nat} {M : Mem} {W c i : Nat} (hd : 2 ≤ d) (hW : WA M W) (hc : m_I M W 1 = nI c) (h24 : c ≤ 24) (hi : i < c) : callF X d 104 [.ref W, .int (nI i)] M = some (some (.int (wtS (m_I M (W + 3)) i 4)), M) := by
  have h1 := hW.1
  refine callF_at (by omega) (by decide) (Nat.le_of_ble_eq_true rfl) (fun d _ => ?_)
  show Ev X d 104 0 [.ref W, .int (nI i), .retAddr 0, .retAddr 0, .retAddr 0] [] M _
  simp (disch := omega) only [U_104_0, U_104_1, U_104_2, XX, QQ, WW, Nat.reduceAdd, eq_self, if_true, if_false, true_and, and_true, not_true_eq_false, not_false_eq_true, if_pos, if_neg, z_ite_not, h1, hc, s_isOf, decide_true, Bool.and_true, List.length_nil, List.length_cons, decide_eq_false_iff_not]
  exact l_104 hW hc h24 hi 4 0 _ (by omega)
