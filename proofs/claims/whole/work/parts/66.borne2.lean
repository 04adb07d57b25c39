/-! ===== borne: the reference; alike ===== -/
def nt32 (x : Nat) : Nat := 2 ^ 32 - (x + 1)
theorem i_not {x : Nat} (hx : x < 2 ^ 32) : nI x ^^^ (-1) = nI (nt32 x) := by
  apply b_ext
  intro i hi
  rw [b_xor, b_m1 i hi, bt_nI hi, bt_nI hi]
  unfold nt32
  rw [Nat.testBit_two_pow_sub_succ hx i]
  simp [hi]
noncomputable def cn (e : Nat → Nat → Prop) (n m : Nat) : Nat := bs (fun m' => m' < n ∧ e m m')
theorem cn_lt (e : Nat → Nat → Prop) (n m : Nat) : cn e n m < 2 ^ 24 := bs_lt _
theorem cn_ok {e : Nat → Nat → Prop} {n m k : Nat} (hn : n ≤ 24) (hk : k < 2 ^ 24) : cn e n m &&& nt32 k ≠ 0 ↔ ∃ m', m' < n ∧ e m m' ∧ k.testBit m' = false := by
  have e' : cn e n m &&& nt32 k = bs (fun m' => (m' < n ∧ e m m') ∧ k.testBit m' = false) := by
    apply nat_ext
    intro i
    rw [Nat.testBit_and, Bool.and_eq_true]
    unfold cn nt32
    rw [bs_tb, bs_tb, Nat.testBit_two_pow_sub_succ (by omega) i, Bool.and_eq_true, decide_eq_true_iff, Bool.not_eq_true']
    constructor
    · rintro ⟨⟨a, b⟩, _, c⟩; exact ⟨a, b, c⟩
    · rintro ⟨a, b, c⟩; exact ⟨⟨a, b⟩, by omega, c⟩
  rw [e', bs_n0]
  constructor
  · rintro ⟨m', _, ⟨a, b⟩, c⟩; exact ⟨m', a, b, c⟩
  · rintro ⟨m', a, b, c⟩; exact ⟨m', by omega, ⟨a, b⟩, c⟩
noncomputable def cnP (e : Nat → Nat → Prop) (m j : Nat) : Nat := bs (fun m' => m' < j ∧ e m m')
theorem cnP_0 {e : Nat → Nat → Prop} {m : Nat} : cnP e m 0 = 0 := bs_0 (fun c _ => by rintro ⟨h, _⟩; omega)
theorem cnP_s {e : Nat → Nat → Prop} {m j : Nat} (hj : j < 24) (h : e m j) : cnP e m (j + 1) = cnP e m j ||| 2 ^ j := by
  unfold cnP
  rw [bs_ins hj]
  exact bs_ext (fun c _ => by
    constructor
    · rintro ⟨a, b⟩
      by_cases z : c = j
      · exact .inr z
      · exact .inl ⟨by omega, b⟩
    · rintro (⟨a, b⟩ | rfl)
      · exact ⟨by omega, b⟩
      · exact ⟨by omega, h⟩)
theorem cnP_n {e : Nat → Nat → Prop} {m j : Nat} (h : ¬ e m j) : cnP e m (j + 1) = cnP e m j ||| 0 := by
  rw [Nat.or_zero]
  exact bs_ext (fun c _ => by
    constructor
    · rintro ⟨a, b⟩
      by_cases z : c = j
      · subst z; exact absurd b h
      · exact ⟨by omega, b⟩
    · rintro ⟨a, b⟩; exact ⟨by omega, b⟩)
theorem r_borne {X : Nat × (Nat → Int32)} {d : Nat} {I : Nat → Nat → Int32} {J : Nat → Nat → Int64} {a F c n : Nat} {B : Nat → Int32} {E : Nat → Nat → Prop} (hd : 4 ≤ d) (ha : a < 6) (hc : c < 2) (hR : RWl (I 178) a F B) (hn : n = fb_ct (isB B) (pop F)) (hE : E = fun m m' => adj (pl F (kth (isB B) (pop F) m)) (pl F (kth (isB B) (pop F) m'))) : ∃ I', callF X d 251 [.ref 177, .int (nI a), .int (nI c)] (mk I J) = some (some (.int (if n = 0 ∨ 14 < n ∨ ∃ m, m < n ∧ cn E n m = 0 then -1 else if c = 0 then nI (pop (bst E n (2 ^ n))) else nI (bst E n (2 ^ n)))), mk I' J) ∧ FR I I' := by
  have h24 := hR.1
  have n24 : n ≤ 24 := by rw [hn]; exact Nat.le_trans (fb_ct_le _ _) h24
  obtain ⟨d, rfl⟩ : ∃ d', d = d' + 1 := ⟨d - 1, by omega⟩
  have g := r_gathers (X := X) (d := d) (J := J) (by omega) ha hR
  obtain ⟨I1, hI1⟩ : ∃ I1, I1 = Igat I F B := ⟨_, rfl⟩
  have fr1 := FR_gat (I := I) (F := F) (B := B)
  rw [← hn, ← hI1] at g
  rw [← hI1] at fr1
  have e178 : I1 178 = I 178 := fr1.2.1
  by_cases h0 : n = 0 ∨ 14 < n
  · refine ⟨I1, ?_, fr1⟩
    rw [if_pos (by rcases h0 with z | z; exact .inl z; exact .inr (.inl z))]
    refine callF_at (by omega) (by decide) (Nat.le_of_ble_eq_true rfl) (fun d' hd' => ?_)
    obtain rfl : d = d' := by omega
    show Ev X d 251 0 [.ref 177, .int (nI a), .int (nI c), .retAddr 0, .retAddr 0, .retAddr 0, .retAddr 0, .retAddr 0] [] (mk I J) _
    rcases h0 with z | z
    · subst z
      simp (disch := first | omega | assumption | exact rfl) only [U_251_0, U_251_1, U_251_3, U_251_4, XX, QQ, WW, KK, QX, SHs, RRs, Nat.reduceAdd, Nat.reduceMul, Nat.reduceLeDiff, Nat.reduceEqDiff, List.length_cons, List.length_nil, decide_true, decide_false, Bool.true_and, Bool.and_true, Bool.false_and, Bool.and_false, false_and, and_false, Bool.false_eq_true, Bool.true_eq_false, reduceCtorEq, eq_self, if_true, if_false, true_and, and_true, not_true_eq_false, not_false_eq_true, if_pos, if_neg, z_ite_not, false_or, or_false, true_or, or_true, SWs, swk_0, swk_1, r_isWall, r_isIn, g]
    · simp (disch := first | omega | assumption | exact rfl) only [U_251_0, U_251_1, U_251_3, U_251_4, XX, QQ, WW, KK, QX, SHs, RRs, Nat.reduceAdd, Nat.reduceMul, Nat.reduceLeDiff, Nat.reduceEqDiff, List.length_cons, List.length_nil, decide_true, decide_false, Bool.true_and, Bool.and_true, Bool.false_and, Bool.and_false, false_and, and_false, Bool.false_eq_true, Bool.true_eq_false, reduceCtorEq, eq_self, if_true, if_false, true_and, and_true, not_true_eq_false, not_false_eq_true, if_pos, if_neg, z_ite_not, false_or, or_false, true_or, or_true, SWs, swk_0, swk_1, r_isWall, r_isIn, g]
  · have n1 : 1 ≤ n := by omega
    have n14 : n ≤ 14 := by omega
    have p2n : 2 ^ n ≤ 16384 := Nat.le_trans (Nat.pow_le_pow_right (by decide) n14) (by decide)
    have p2p : 1 ≤ 2 ^ n := Nat.two_pow_pos n
    have ho : ∀ m, m < n → I1 192 m = nI (kth (isB B) (pop F) m) := fun m hm => by
      rw [hI1]; unfold Igat; rw [vu_eq]; exact if_pos (by omega)
    have hk : ∀ m, m < n → kth (isB B) (pop F) m < pop F := fun m hm => (kth_spec (by omega)).1
    obtain ⟨vv, hvv⟩ : ∃ vv : Int32, vv = if c = 0 then nI (pop (bst E n (2 ^ n))) else nI (bst E n (2 ^ n)) := ⟨_, rfl⟩
    rw [← hvv]
    obtain ⟨v, hv⟩ : ∃ v : Int32, v = if n = 0 ∨ 14 < n ∨ ∃ m, m < n ∧ cn E n m = 0 then -1 else vv := ⟨_, rfl⟩
    rw [← hv]
    -- the search for the best
    have L2 : ∀ gA : Nat → Int32, (∀ m, m < n → gA m = nI (cn E n m)) → ∀ u4 u5 : Value, Ev X d 251 16 [.ref 177, .int (nI a), .int (nI c), .int (nI n), u4, u5, .retAddr 0, .retAddr 0] [] (mk (va_up I1 198 gA) J) (some (.int vv), mk (va_up I1 198 gA) J) := by
      intro gA hg u4 u5
      simp (disch := first | omega | assumption | exact rfl) only [U_251_16, XX, QQ, WW, KK, QX, SHs, RRs, Nat.reduceAdd, Nat.reduceMul, Nat.reduceLeDiff, Nat.reduceEqDiff, List.length_cons, List.length_nil, decide_true, decide_false, Bool.true_and, Bool.and_true, Bool.false_and, Bool.and_false, false_and, and_false, Bool.false_eq_true, Bool.true_eq_false, reduceCtorEq, eq_self, if_true, if_false, true_and, and_true, not_true_eq_false, not_false_eq_true, if_pos, if_neg, z_ite_not, false_or, or_false, true_or, or_true, SWs, swk_0, swk_1]
      refine lpd (n := 2 ^ n) (P := fun k => 1 ≤ k → ∀ u6 u7 : Value, Ev X d 251 17 [.ref 177, .int (nI a), .int (nI c), .int (nI n), .int (nI (bst E n k)), .int (nI k), u6, u7] [] (mk (va_up I1 198 gA) J) (some (.int vv), mk (va_up I1 198 gA) J)) ?_ ?_ 1 p2p (Nat.le_refl 1) _ _
      · intro _ u6 u7
        have bl := bst_le E n (2 ^ n)
        rw [U_251_17, hvv]
        by_cases z : c = 0
        · subst z
          simp (disch := first | omega | assumption | exact rfl) only [U_251_32, U_251_33, U_251_34, U_251_35, XX, QQ, WW, KK, QX, SHs, RRs, Nat.reduceAdd, Nat.reduceMul, Nat.reduceLeDiff, Nat.reduceEqDiff, List.length_cons, List.length_nil, decide_true, decide_false, Bool.true_and, Bool.and_true, Bool.false_and, Bool.and_false, false_and, and_false, Bool.false_eq_true, Bool.true_eq_false, reduceCtorEq, eq_self, if_true, if_false, true_and, and_true, not_true_eq_false, not_false_eq_true, if_pos, if_neg, z_ite_not, false_or, or_false, true_or, or_true, SWs, swk_0, swk_1, r_count]
        · rw [if_neg z]
          simp (disch := first | omega | assumption | exact rfl) only [U_251_32, U_251_33, U_251_34, U_251_35, XX, QQ, WW, KK, QX, SHs, RRs, Nat.reduceAdd, Nat.reduceMul, Nat.reduceLeDiff, Nat.reduceEqDiff, List.length_cons, List.length_nil, decide_true, decide_false, Bool.true_and, Bool.and_true, Bool.false_and, Bool.and_false, false_and, and_false, Bool.false_eq_true, Bool.true_eq_false, reduceCtorEq, eq_self, if_true, if_false, true_and, and_true, not_true_eq_false, not_false_eq_true, if_pos, if_neg, z_ite_not, false_or, or_false, true_or, or_true, SWs, swk_0, swk_1]
      · intro k hk' ih h1 u6 u7
        rw [U_251_17]
        have bl := bst_le E n k
        have pl1 := pop_le (bst E n k)
        have pl2 := pop_le k
        have q := ih (by omega)
        by_cases z : pop (bst E n k) < pop k
        · simp (disch := first | omega | assumption | exact rfl) only [U_251_18, U_251_20, XX, QQ, WW, KK, QX, SHs, RRs, Nat.reduceAdd, Nat.reduceMul, Nat.reduceLeDiff, Nat.reduceEqDiff, List.length_cons, List.length_nil, decide_true, decide_false, Bool.true_and, Bool.and_true, Bool.false_and, Bool.and_false, false_and, and_false, Bool.false_eq_true, Bool.true_eq_false, reduceCtorEq, eq_self, if_true, if_false, true_and, and_true, not_true_eq_false, not_false_eq_true, if_pos, if_neg, z_ite_not, false_or, or_false, true_or, or_true, SWs, swk_0, swk_1, r_count]
          -- can all be borne
          have fin : ∀ (b : Bool), b = cd (okS E n k) → ∀ u7 : Value, Ev X d 251 27 [.ref 177, .int (nI a), .int (nI c), .int (nI n), .int (nI (bst E n k)), .int (nI k), .int (bI b), u7] [] (mk (va_up I1 198 gA) J) (some (.int vv), mk (va_up I1 198 gA) J) := by
            intro b hb u7
            cases b with
            | true =>
              have e : bst E n (k + 1) = k := by rw [bst, if_pos ⟨z, hb.symm⟩]
              rw [e] at q
              simp (disch := first | omega | assumption | exact rfl) only [U_251_27, U_251_28, U_251_30, U_251_31, XX, QQ, WW, KK, QX, SHs, RRs, Nat.reduceAdd, Nat.reduceMul, Nat.reduceLeDiff, Nat.reduceEqDiff, List.length_cons, List.length_nil, decide_true, decide_false, Bool.true_and, Bool.and_true, Bool.false_and, Bool.and_false, false_and, and_false, Bool.false_eq_true, Bool.true_eq_false, reduceCtorEq, eq_self, if_true, if_false, true_and, and_true, not_true_eq_false, not_false_eq_true, if_pos, if_neg, z_ite_not, false_or, or_false, true_or, or_true, SWs, swk_0, swk_1]
              exact q _ _
            | false =>
              have e : bst E n (k + 1) = bst E n k := by rw [bst, if_neg (fun w => by rw [w.2] at hb; cases hb)]
              rw [e] at q
              simp (disch := first | omega | assumption | exact rfl) only [U_251_27, U_251_29, U_251_30, U_251_31, XX, QQ, WW, KK, QX, SHs, RRs, Nat.reduceAdd, Nat.reduceMul, Nat.reduceLeDiff, Nat.reduceEqDiff, List.length_cons, List.length_nil, decide_true, decide_false, Bool.true_and, Bool.and_true, Bool.false_and, Bool.and_false, false_and, and_false, Bool.false_eq_true, Bool.true_eq_false, reduceCtorEq, eq_self, if_true, if_false, true_and, and_true, not_true_eq_false, not_false_eq_true, if_pos, if_neg, z_ite_not, false_or, or_false, true_or, or_true, SWs, swk_0, swk_1]
              exact q _ _
          refine lp0 (n := n) (P := fun m => (∀ m', m' < m → cn E n m' &&& nt32 k ≠ 0) → Ev X d 251 21 [.ref 177, .int (nI a), .int (nI c), .int (nI n), .int (nI (bst E n k)), .int (nI k), .int (nI 1), .int (nI m)] [] (mk (va_up I1 198 gA) J) (some (.int vv), mk (va_up I1 198 gA) J)) ?_ ?_ (fun m' h => by omega)
          · intro hall
            rw [U_251_21]
            have f := fin true (by
              symm
              rw [cd_iff]
              exact fun m hm => (cn_ok n24 (by omega)).mp (hall m hm)) (.int (nI n))
            simp (disch := omega) only [XX, QQ, Nat.reduceLeDiff, if_true, if_pos, eq_self]
            exact f
          · intro m hm ihm hall
            rw [U_251_21]
            have ge := hg m hm
            have ni := i_not (show k < 2 ^ 32 by omega)
            have al := and_lt24 (y := nt32 k) (cn_lt E n m)
            by_cases y : cn E n m &&& nt32 k = 0
            · have f := fin false (by
                symm
                rw [cd_f]
                exact fun w => (cn_ok n24 (by omega)).mpr (w m hm) y) (.int (nI (m + 1)))
              simp (disch := first | omega | assumption | exact rfl) only [U_251_22, U_251_23, U_251_25, U_251_26, XX, QQ, WW, KK, QX, SHs, RRs, Nat.reduceAdd, Nat.reduceMul, Nat.reduceLeDiff, Nat.reduceEqDiff, List.length_cons, List.length_nil, decide_true, decide_false, Bool.true_and, Bool.and_true, Bool.false_and, Bool.and_false, false_and, and_false, Bool.false_eq_true, Bool.true_eq_false, reduceCtorEq, eq_self, if_true, if_false, true_and, and_true, not_true_eq_false, not_false_eq_true, if_pos, if_neg, z_ite_not, false_or, or_false, true_or, or_true, SWs, swk_0, swk_1, ge, ni, fa_and, y]
              rw [U_251_21]
              by_cases w : m + 1 < n
              · simp (disch := first | omega | assumption | exact rfl) only [U_251_22, XX, QQ, WW, KK, QX, SHs, RRs, Nat.reduceAdd, Nat.reduceMul, Nat.reduceLeDiff, Nat.reduceEqDiff, List.length_cons, List.length_nil, decide_true, decide_false, Bool.true_and, Bool.and_true, Bool.false_and, Bool.and_false, false_and, and_false, Bool.false_eq_true, Bool.true_eq_false, reduceCtorEq, eq_self, if_true, if_false, true_and, and_true, not_true_eq_false, not_false_eq_true, if_pos, if_neg, z_ite_not, false_or, or_false, true_or, or_true, SWs, swk_0, swk_1]
                exact f
              · simp (disch := omega) only [XX, QQ, Nat.reduceLeDiff, if_true, if_pos, eq_self]
                exact f
            · have q2 := ihm (fun m' h' => by
                by_cases w : m' = m
                · rw [w]; exact y
                · exact hall m' (by omega))
              simp (disch := first | omega | assumption | exact rfl) only [U_251_22, U_251_23, U_251_24, U_251_26, XX, QQ, WW, KK, QX, SHs, RRs, Nat.reduceAdd, Nat.reduceMul, Nat.reduceLeDiff, Nat.reduceEqDiff, List.length_cons, List.length_nil, decide_true, decide_false, Bool.true_and, Bool.and_true, Bool.false_and, Bool.and_false, false_and, and_false, Bool.false_eq_true, Bool.true_eq_false, reduceCtorEq, eq_self, if_true, if_false, true_and, and_true, not_true_eq_false, not_false_eq_true, if_pos, if_neg, z_ite_not, false_or, or_false, true_or, or_true, SWs, swk_0, swk_1, ge, ni, fa_and, y]
              exact q2
        · have e : bst E n (k + 1) = bst E n k := by rw [bst, if_neg (fun w => z w.1)]
          rw [e] at q
          simp (disch := first | omega | assumption | exact rfl) only [U_251_18, U_251_19, U_251_31, XX, QQ, WW, KK, QX, SHs, RRs, Nat.reduceAdd, Nat.reduceMul, Nat.reduceLeDiff, Nat.reduceEqDiff, List.length_cons, List.length_nil, decide_true, decide_false, Bool.true_and, Bool.and_true, Bool.false_and, Bool.and_false, false_and, and_false, Bool.false_eq_true, Bool.true_eq_false, reduceCtorEq, eq_self, if_true, if_false, true_and, and_true, not_true_eq_false, not_false_eq_true, if_pos, if_neg, z_ite_not, false_or, or_false, true_or, or_true, SWs, swk_0, swk_1, r_count]
          exact q _ _
    -- who touches whom
    have L1 : ∃ I', FR I I' ∧ Ev X d 251 6 [.ref 177, .int (nI a), .int (nI c), .int (nI n), .int (nI 0), .retAddr 0, .retAddr 0, .retAddr 0] [] (mk I1 J) (some (.int v), mk I' J) := by
      have frA : ∀ gA : Nat → Int32, FR I (va_up I1 198 gA) := fun gA => FR_trans fr1 (FR_of (fun k h1 h2 => vu_ne (by omega)) (fun k hk => by rw [vu_ne (by decide)]))
      refine lpI (n := n) (P := fun i => (∀ m, m < i → cn E n m ≠ 0) → ∀ gA : Nat → Int32, (∀ m, m < i → gA m = nI (cn E n m)) → ∀ u5 : Value, ∃ I', FR I I' ∧ Ev X d 251 6 [.ref 177, .int (nI a), .int (nI c), .int (nI n), .int (nI i), u5, .retAddr 0, .retAddr 0] [] (mk (va_up I1 198 gA) J) (some (.int v), mk I' J)) ?_ ?_ (fun L => by
        have := L (fun m h => by omega) (I1 198) (fun m h => by omega) (.retAddr 0)
        rw [vu_id] at this; exact this)
      · intro hall gA hg u5
        refine ⟨va_up I1 198 gA, frA gA, ?_⟩
        have e : v = vv := by
          rw [hv, if_neg]
          rintro (w | w | ⟨m, w1, w2⟩)
          · omega
          · omega
          · exact hall m w1 w2
        rw [e, U_251_6]
        have q := L2 gA hg (.int (nI n)) u5
        simp (disch := omega) only [XX, QQ, Nat.reduceLeDiff, if_true, if_pos, eq_self]
        exact q
      · intro i hi ih hall gA hg u5
        have hki := hk i hi
        have hoi := ho i hi
        -- row i
        have row : ∃ I', FR I I' ∧ Ev X d 251 8 [.ref 177, .int (nI a), .int (nI c), .int (nI n), .int (nI i), .int (nI 0), .retAddr 0, .retAddr 0] [] (mk (va_up I1 198 (va_up gA i (nI (cnP E i 0)))) J) (some (.int v), mk I' J) := by
          refine lp0 (n := n) (P := fun j => ∃ I', FR I I' ∧ Ev X d 251 8 [.ref 177, .int (nI a), .int (nI c), .int (nI n), .int (nI i), .int (nI j), .retAddr 0, .retAddr 0] [] (mk (va_up I1 198 (va_up gA i (nI (cnP E i j)))) J) (some (.int v), mk I' J)) ?_ ?_
          · have ec : cnP E i n = cn E n i := rfl
            rw [ec]
            have cl := cn_lt E n i
            by_cases y : cn E n i = 0
            · refine ⟨va_up I1 198 (va_up gA i (nI (cn E n i))), frA _, ?_⟩
              have e : v = -1 := by rw [hv, if_pos (.inr (.inr ⟨i, hi, y⟩))]
              rw [e, U_251_8]
              simp (disch := first | omega | assumption | exact rfl) only [U_251_13, U_251_14, XX, QQ, WW, KK, QX, SHs, RRs, Nat.reduceAdd, Nat.reduceMul, Nat.reduceLeDiff, Nat.reduceEqDiff, List.length_cons, List.length_nil, decide_true, decide_false, Bool.true_and, Bool.and_true, Bool.false_and, Bool.and_false, false_and, and_false, Bool.false_eq_true, Bool.true_eq_false, reduceCtorEq, eq_self, if_true, if_false, true_and, and_true, not_true_eq_false, not_false_eq_true, if_pos, if_neg, z_ite_not, false_or, or_false, true_or, or_true, SWs, swk_0, swk_1, y]
            · obtain ⟨I', p1, p2⟩ := ih (fun m hm => by
                by_cases w : m = i
                · rw [w]; exact y
                · exact hall m (by omega)) (va_up gA i (nI (cn E n i))) (fun m hm => by
                by_cases w : m = i
                · rw [w, vu_eq]
                · rw [vu_ne w]; exact hg m (by omega)) (.int (nI n))
              refine ⟨I', p1, ?_⟩
              rw [U_251_8]
              simp (disch := first | omega | assumption | exact rfl) only [U_251_13, U_251_15, XX, QQ, WW, KK, QX, SHs, RRs, Nat.reduceAdd, Nat.reduceMul, Nat.reduceLeDiff, Nat.reduceEqDiff, List.length_cons, List.length_nil, decide_true, decide_false, Bool.true_and, Bool.and_true, Bool.false_and, Bool.and_false, false_and, and_false, Bool.false_eq_true, Bool.true_eq_false, reduceCtorEq, eq_self, if_true, if_false, true_and, and_true, not_true_eq_false, not_false_eq_true, if_pos, if_neg, z_ite_not, false_or, or_false, true_or, or_true, SWs, swk_0, swk_1, y]
              exact p2
          · intro j hj ⟨I', p1, p2⟩
            refine ⟨I', p1, ?_⟩
            have hkj := hk j hj
            have hoj := ho j hj
            have hR1 : RWl (va_up I1 198 (va_up gA i (nI (cnP E i j))) 178) a F B := by rw [vu_ne (by decide), e178]; exact hR
            have wt := r_wallTouch (X := X) (d := d) (J := J) (by omega) ha hR1 hki hkj
            rw [U_251_8]
            by_cases y : adj (pl F (kth (isB B) (pop F) i)) (pl F (kth (isB B) (pop F) j))
            · have cy := cd_iff.mpr y
              rw [cnP_s (by omega) (by rw [hE]; exact y)] at p2
              simp (disch := first | omega | assumption | exact rfl) only [U_251_9, U_251_10, U_251_11, U_251_12, XX, QQ, WW, KK, QX, SHs, RRs, Nat.reduceAdd, Nat.reduceMul, Nat.reduceLeDiff, Nat.reduceEqDiff, List.length_cons, List.length_nil, decide_true, decide_false, Bool.true_and, Bool.and_true, Bool.false_and, Bool.and_false, false_and, and_false, Bool.false_eq_true, Bool.true_eq_false, reduceCtorEq, eq_self, if_true, if_false, true_and, and_true, not_true_eq_false, not_false_eq_true, if_pos, if_neg, z_ite_not, false_or, or_false, true_or, or_true, SWs, swk_0, swk_1, hoi, hoj, wt, cy, fa_or]
              exact p2
            · have cy := cd_f.mpr y
              rw [cnP_n (by rw [hE]; exact y)] at p2
              simp (disch := first | omega | assumption | exact rfl) only [U_251_9, U_251_10, U_251_11, U_251_12, XX, QQ, WW, KK, QX, SHs, RRs, Nat.reduceAdd, Nat.reduceMul, Nat.reduceLeDiff, Nat.reduceEqDiff, List.length_cons, List.length_nil, decide_true, decide_false, Bool.true_and, Bool.and_true, Bool.false_and, Bool.and_false, false_and, and_false, Bool.false_eq_true, Bool.true_eq_false, reduceCtorEq, eq_self, if_true, if_false, true_and, and_true, not_true_eq_false, not_false_eq_true, if_pos, if_neg, z_ite_not, false_or, or_false, true_or, or_true, SWs, swk_0, swk_1, hoi, hoj, wt, cy, fa_or]
              exact p2
        obtain ⟨I', p1, p2⟩ := row
        rw [cnP_0] at p2
        refine ⟨I', p1, ?_⟩
        rw [U_251_6]
        simp (disch := first | omega | assumption | exact rfl) only [U_251_7, XX, QQ, WW, KK, QX, SHs, RRs, Nat.reduceAdd, Nat.reduceMul, Nat.reduceLeDiff, Nat.reduceEqDiff, List.length_cons, List.length_nil, decide_true, decide_false, Bool.true_and, Bool.and_true, Bool.false_and, Bool.and_false, false_and, and_false, Bool.false_eq_true, Bool.true_eq_false, reduceCtorEq, eq_self, if_true, if_false, true_and, and_true, not_true_eq_false, not_false_eq_true, if_pos, if_neg, z_ite_not, false_or, or_false, true_or, or_true, SWs, swk_0, swk_1]
        exact p2
    obtain ⟨I', p1, p2⟩ := L1
    refine ⟨I', ?_, p1⟩
    refine callF_at (by omega) (by decide) (Nat.le_of_ble_eq_true rfl) (fun d' hd' => ?_)
    obtain rfl : d = d' := by omega
    show Ev X d 251 0 [.ref 177, .int (nI a), .int (nI c), .retAddr 0, .retAddr 0, .retAddr 0, .retAddr 0, .retAddr 0] [] (mk I J) _
    simp (disch := first | omega | assumption | exact rfl) only [U_251_0, U_251_1, U_251_3, U_251_5, XX, QQ, WW, KK, QX, SHs, RRs, Nat.reduceAdd, Nat.reduceMul, Nat.reduceLeDiff, Nat.reduceEqDiff, List.length_cons, List.length_nil, decide_true, decide_false, Bool.true_and, Bool.and_true, Bool.false_and, Bool.and_false, false_and, and_false, Bool.false_eq_true, Bool.true_eq_false, reduceCtorEq, eq_self, if_true, if_false, true_and, and_true, not_true_eq_false, not_false_eq_true, if_pos, if_neg, z_ite_not, false_or, or_false, true_or, or_true, SWs, swk_0, swk_1, r_isWall, r_isIn, g]
    exact p2
theorem okS_cong {e e' : Nat → Nat → Prop} {n k : Nat} (h : ∀ m m', m < n → m' < n → (e m m' ↔ e' m m')) : okS e n k ↔ okS e' n k := by
  unfold okS
  constructor
  · intro z m hm
    obtain ⟨m', a, b, c⟩ := z m hm
    exact ⟨m', a, (h m m' hm a).mp b, c⟩
  · intro z m hm
    obtain ⟨m', a, b, c⟩ := z m hm
    exact ⟨m', a, (h m m' hm a).mpr b, c⟩
theorem bst_cong {e e' : Nat → Nat → Prop} {n : Nat} (h : ∀ m m', m < n → m' < n → (e m m' ↔ e' m m')) : ∀ k, bst e n k = bst e' n k
  | 0 => rfl
  | k + 1 => by
    have c : cd (okS e n k) = cd (okS e' n k) := by rw [Bool.eq_iff_iff, cd_iff, cd_iff]; exact okS_cong h
    rw [bst, bst, bst_cong h k, c]
theorem pop_eq0 {x : Nat} (hx : x < 2 ^ 64) : pop x = 0 ↔ x = 0 := by
  constructor
  · intro h
    apply nat_ext
    intro i
    rw [Nat.zero_testBit]
    refine ⟨fun z => ?_, fun z => by cases z⟩
    have := fb_ct_zero.mp h i (tb_lt hx z)
    rw [z] at this; cases this
  · intro h; rw [h]; exact pop_0
theorem lone_iff {f : Nat} (hf : f < 2 ^ 64) (h24 : pop f ≤ 24) : f &&& nt (arN f) ≠ 0 ↔ ∃ m, m < pop f ∧ cn (fun m m' => adj (pl f m) (pl f m')) (pop f) m = 0 := by
  have tb : ∀ p, (f &&& nt (arN f)).testBit p = true ↔ f.testBit p = true ∧ ¬ ∃ q, q < 64 ∧ f.testBit q = true ∧ adj q p := by
    intro p
    rw [Nat.testBit_and, Bool.and_eq_true, nt_tb (arN_lt _), Bool.and_eq_true, decide_eq_true_iff, Bool.not_eq_true']
    constructor
    · rintro ⟨a, b, c⟩
      refine ⟨a, ?_⟩
      rintro ⟨q, q1, q2, q4⟩
      have : (arN f).testBit p = true := by
        unfold arN
        rw [b64_tb]
        exact ⟨b, q, q1, q2, q4⟩
      rw [this] at c; cases c
    · rintro ⟨a, b⟩
      have hp := tb_lt hf a
      refine ⟨a, hp, ?_⟩
      cases hc : (arN f).testBit p with
      | false => rfl
      | true =>
        unfold arN at hc
        rw [b64_tb] at hc
        obtain ⟨_, q, q1, q2, q3⟩ := hc
        exact absurd ⟨q, q1, q2, q3⟩ b
  constructor
  · intro h
    have : ∃ p, (f &&& nt (arN f)).testBit p = true := Classical.byContradiction (fun no => h (nat_ext (fun i => by
      rw [Nat.zero_testBit]
      exact ⟨fun z => absurd ⟨i, z⟩ no, fun z => by cases z⟩)))
    obtain ⟨p, hp⟩ := this
    obtain ⟨a, b⟩ := (tb p).mp hp
    have p64 := tb_lt hf a
    refine ⟨num f p, num_lt p64 a, bs_0 (fun m' _ => ?_)⟩
    rintro ⟨c1, c2⟩
    have c2 : adj (pl f (num f p)) (pl f m') := c2
    rw [pl_num p64 a] at c2
    obtain ⟨p1, p2, p3⟩ := pl_spec c1
    exact b ⟨pl f m', p1, p2, adj_sym.mp c2⟩
  · rintro ⟨m, hm, h0⟩ hz
    obtain ⟨p1, p2, p3⟩ := pl_spec hm
    have : (f &&& nt (arN f)).testBit (pl f m) = true := (tb _).mpr ⟨p2, by
      rintro ⟨q, q1, q2, q4⟩
      have ql := num_lt q1 q2
      have : (cn (fun m m' => adj (pl f m) (pl f m')) (pop f) m).testBit (num f q) = true := by
        unfold cn
        rw [bs_tb]
        refine ⟨by omega, ql, ?_⟩
        show adj (pl f m) (pl f (num f q))
        rw [pl_num q1 q2]; exact adj_sym.mp q4
      rw [h0, Nat.zero_testBit] at this; cases this⟩
    rw [hz, Nat.zero_testBit] at this; cases this
theorem b_borne {X : Nat × (Nat → Int32)} {d : Nat} {I : Nat → Nat → Int32} {J : Nat → Nat → Int64} {u v : Int32} (hd : 6 ≤ d) (h : Inv I J) : Both X d 141 251 [.int u, .int v] I J := by
  obtain ⟨FW, hw⟩ := Inv_wl h
  rcases of_d u 5 6 rfl (by decide) with ⟨a, ha, rfl⟩ | ⟨o1, o2⟩
  · rcases of_d v 1 2 rfl (by decide) with ⟨c, hc, rfl⟩ | ⟨o1, o2⟩
    · obtain ⟨hG, hB, hR⟩ := hw a ha
      have h24 := hG.2.2.1
      obtain ⟨B, hBe⟩ : ∃ B, B = I (14 + 4 * a + 1) := ⟨_, rfl⟩
      rw [← hBe] at hB hR
      obtain ⟨n, hn⟩ : ∃ n, n = fb_ct (isB B) (pop (FW a)) := ⟨_, rfl⟩
      have n24 : n ≤ 24 := by rw [hn]; exact Nat.le_trans (fb_ct_le _ _) h24
      obtain ⟨f, hf⟩ : ∃ f, f = fil (FW a) B := ⟨_, rfl⟩
      have f64 : f < 2 ^ 64 := by rw [hf]; exact fil_lt _ _
      have pf : pop f = n := by rw [hf, hn]; exact pop_fil
      obtain ⟨E, hE⟩ : ∃ E : Nat → Nat → Prop, E = fun m m' => adj (pl (FW a) (kth (isB B) (pop (FW a)) m)) (pl (FW a) (kth (isB B) (pop (FW a)) m')) := ⟨_, rfl⟩
      have eE : ∀ m m', m < n → m' < n → ((fun m m' => adj (pl f m) (pl f m')) m m' ↔ E m m') := by
        intro m m' h1 h2
        rw [hE]
        show adj (pl f m) (pl f m') ↔ _
        rw [hf, pl_fil (by omega), pl_fil (by omega)]
      have ecn : ∀ m, m < n → cn (fun m m' => adj (pl f m) (pl f m')) n m = cn E n m := fun m hm => bs_ext (fun m' _ => ⟨fun z => ⟨z.1, (eE m m' hm z.1).mp z.2⟩, fun z => ⟨z.1, (eE m m' hm z.1).mpr z.2⟩⟩)
      have eb := bst_cong eE (2 ^ n)
      have lo := lone_iff f64 (by omega)
      rw [pf] at lo
      have ll : f &&& nt (arN f) < 2 ^ 64 := Nat.lt_of_le_of_lt Nat.and_le_left f64
      have pll := pop_le (f &&& nt (arN f))
      have lo2 : (∃ m, m < n ∧ cn E n m = 0) ↔ pop (f &&& nt (arN f)) ≠ 0 := by
        rw [Ne, pop_eq0 ll]
        constructor
        · rintro ⟨m, z1, z2⟩; exact lo.mpr ⟨m, z1, by rw [ecn m z1]; exact z2⟩
        · intro z
          obtain ⟨m, z1, z2⟩ := lo.mp z
          exact ⟨m, z1, by rw [← ecn m z1]; exact z2⟩
      refine Both_q (if n = 0 ∨ 14 < n ∨ ∃ m, m < n ∧ cn E n m = 0 then -1 else if c = 0 then nI (pop (bst E n (2 ^ n))) else nI (bst E n (2 ^ n))) h ⟨I, J, ?_, FC_refl I J⟩ (fun I1 J1 _ hF => ?_)
      · refine callF_at (by omega) (by decide) (Nat.le_of_ble_eq_true rfl) (fun d _ => ?_)
        show Ev X d 141 0 [.ref 0, .int (nI a), .int (nI c), .retAddr 0, .retAddr 0, .retAddr 0, .retAddr 0] [] ( mk I J) _
        have sf := s_filled (X := X) (d := d) (by omega) hG
        rw [k_I, ← hBe, ← hf] at sf
        have bc := s_bcL (X := X) (d := d) (M := mk I J) (by omega) f64
        rw [pf] at bc
        have lon := s_lonely (X := X) (d := d) (M := mk I J) (by omega) f64
        by_cases n0 : n = 0
        · rw [if_pos (.inl n0)]
          rw [n0] at bc
          simp (disch := first | omega | assumption | exact rfl) only [U_141_0, U_141_1, U_141_3, U_141_6, XX, QQ, WW, KK, QX, SHs, RRs, Nat.reduceAdd, Nat.reduceMul, Nat.reduceLeDiff, Nat.reduceEqDiff, List.length_cons, List.length_nil, decide_true, decide_false, Bool.true_and, Bool.and_true, Bool.false_and, Bool.and_false, false_and, and_false, Bool.false_eq_true, Bool.true_eq_false, reduceCtorEq, eq_self, if_true, if_false, true_and, and_true, not_true_eq_false, not_false_eq_true, if_pos, if_neg, z_ite_not, false_or, or_false, true_or, or_true, SWs, swk_0, swk_1, s_isOf, WLs, sf, bc]
        · by_cases n14 : 14 < n
          · rw [if_pos (.inr (.inl n14))]
            simp (disch := first | omega | assumption | exact rfl) only [U_141_0, U_141_1, U_141_3, U_141_4, U_141_6, XX, QQ, WW, KK, QX, SHs, RRs, Nat.reduceAdd, Nat.reduceMul, Nat.reduceLeDiff, Nat.reduceEqDiff, List.length_cons, List.length_nil, decide_true, decide_false, Bool.true_and, Bool.and_true, Bool.false_and, Bool.and_false, false_and, and_false, Bool.false_eq_true, Bool.true_eq_false, reduceCtorEq, eq_self, if_true, if_false, true_and, and_true, not_true_eq_false, not_false_eq_true, if_pos, if_neg, z_ite_not, false_or, or_false, true_or, or_true, SWs, swk_0, swk_1, s_isOf, WLs, sf, bc]
          · by_cases z : ∃ m, m < n ∧ cn E n m = 0
            · rw [if_pos (.inr (.inr z))]
              have z' := lo2.mp z
              simp (disch := first | omega | assumption | exact rfl) only [U_141_0, U_141_1, U_141_3, U_141_4, U_141_5, U_141_6, XX, QQ, WW, KK, QX, SHs, RRs, Nat.reduceAdd, Nat.reduceMul, Nat.reduceLeDiff, Nat.reduceEqDiff, List.length_cons, List.length_nil, decide_true, decide_false, Bool.true_and, Bool.and_true, Bool.false_and, Bool.and_false, false_and, and_false, Bool.false_eq_true, Bool.true_eq_false, reduceCtorEq, eq_self, if_true, if_false, true_and, and_true, not_true_eq_false, not_false_eq_true, if_pos, if_neg, z_ite_not, false_or, or_false, true_or, or_true, SWs, swk_0, swk_1, s_isOf, WLs, sf, bc, lon]
            · rw [if_neg (by rintro (w | w | w); exact n0 w; exact n14 w; exact z w)]
              have z' : pop (f &&& nt (arN f)) = 0 := Classical.byContradiction (fun w => z (lo2.mpr w))
              rw [z'] at lon
              have mr := s_mostReplaced (X := X) (d := d) (M := mk I J) (by omega) f64 pf.symm (by omega)
              rw [eb] at mr
              have bl := bst_le E n (2 ^ n)
              have p2n : 2 ^ n ≤ 16384 := Nat.le_trans (Nat.pow_le_pow_right (by decide) (show n ≤ 14 by omega)) (by decide)
              by_cases c0 : c = 0
              · subst c0
                simp (disch := first | omega | assumption | exact rfl) only [U_141_0, U_141_1, U_141_3, U_141_4, U_141_5, U_141_7, U_141_8, U_141_9, U_141_10, XX, QQ, WW, KK, QX, SHs, RRs, Nat.reduceAdd, Nat.reduceMul, Nat.reduceLeDiff, Nat.reduceEqDiff, List.length_cons, List.length_nil, decide_true, decide_false, Bool.true_and, Bool.and_true, Bool.false_and, Bool.and_false, false_and, and_false, Bool.false_eq_true, Bool.true_eq_false, reduceCtorEq, eq_self, if_true, if_false, true_and, and_true, not_true_eq_false, not_false_eq_true, if_pos, if_neg, z_ite_not, false_or, or_false, true_or, or_true, SWs, swk_0, swk_1, s_isOf, WLs, sf, bc, lon, mr, s_bcI]
              · rw [if_neg c0]
                simp (disch := first | omega | assumption | exact rfl) only [U_141_0, U_141_1, U_141_3, U_141_4, U_141_5, U_141_7, U_141_8, U_141_9, U_141_10, XX, QQ, WW, KK, QX, SHs, RRs, Nat.reduceAdd, Nat.reduceMul, Nat.reduceLeDiff, Nat.reduceEqDiff, List.length_cons, List.length_nil, decide_true, decide_false, Bool.true_and, Bool.and_true, Bool.false_and, Bool.and_false, false_and, and_false, Bool.false_eq_true, Bool.true_eq_false, reduceCtorEq, eq_self, if_true, if_false, true_and, and_true, not_true_eq_false, not_false_eq_true, if_pos, if_neg, z_ite_not, false_or, or_false, true_or, or_true, SWs, swk_0, swk_1, s_isOf, WLs, sf, bc, lon, mr]
      · exact r_borne (by omega) ha hc (by rw [hF.1 _ (by omega)]; exact hR) hn hE
    · refine Both_0 (-1) h ?_ ?_
      · refine callF_at (by omega) (by decide) (Nat.le_of_ble_eq_true rfl) (fun d _ => ?_)
        show Ev X d 141 0 [.ref 0, .int (nI a), .int v, .retAddr 0, .retAddr 0, .retAddr 0, .retAddr 0] [] ( mk I J) _
        simp (disch := first | omega | assumption | exact rfl) only [U_141_0, U_141_1, U_141_2, XX, QQ, WW, KK, QX, SHs, RRs, Nat.reduceAdd, Nat.reduceMul, Nat.reduceLeDiff, Nat.reduceEqDiff, List.length_cons, List.length_nil, decide_true, decide_false, Bool.true_and, Bool.and_true, Bool.false_and, Bool.and_false, false_and, and_false, Bool.false_eq_true, Bool.true_eq_false, reduceCtorEq, eq_self, if_true, if_false, true_and, and_true, not_true_eq_false, not_false_eq_true, if_pos, if_neg, z_ite_not, false_or, or_false, true_or, or_true, SWs, swk_0, swk_1, s_isOf, o1]
      · refine callF_at (by omega) (by decide) (Nat.le_of_ble_eq_true rfl) (fun d _ => ?_)
        show Ev X d 251 0 [.ref 177, .int (nI a), .int v, .retAddr 0, .retAddr 0, .retAddr 0, .retAddr 0, .retAddr 0] [] ( mk I J) _
        simp (disch := first | omega | assumption | exact rfl) only [U_251_0, U_251_1, U_251_2, XX, QQ, WW, KK, QX, SHs, RRs, Nat.reduceAdd, Nat.reduceMul, Nat.reduceLeDiff, Nat.reduceEqDiff, List.length_cons, List.length_nil, decide_true, decide_false, Bool.true_and, Bool.and_true, Bool.false_and, Bool.and_false, false_and, and_false, Bool.false_eq_true, Bool.true_eq_false, reduceCtorEq, eq_self, if_true, if_false, true_and, and_true, not_true_eq_false, not_false_eq_true, if_pos, if_neg, z_ite_not, false_or, or_false, true_or, or_true, SWs, swk_0, swk_1, r_isWall, r_isIn, o2]
  · refine Both_0 (-1) h ?_ ?_
    · refine callF_at (by omega) (by decide) (Nat.le_of_ble_eq_true rfl) (fun d _ => ?_)
      show Ev X d 141 0 [.ref 0, .int u, .int v, .retAddr 0, .retAddr 0, .retAddr 0, .retAddr 0] [] ( mk I J) _
      simp (disch := first | omega | assumption | exact rfl) only [U_141_0, U_141_1, U_141_2, XX, QQ, WW, KK, QX, SHs, RRs, Nat.reduceAdd, Nat.reduceMul, Nat.reduceLeDiff, Nat.reduceEqDiff, List.length_cons, List.length_nil, decide_true, decide_false, Bool.true_and, Bool.and_true, Bool.false_and, Bool.and_false, false_and, and_false, Bool.false_eq_true, Bool.true_eq_false, reduceCtorEq, eq_self, if_true, if_false, true_and, and_true, not_true_eq_false, not_false_eq_true, if_pos, if_neg, z_ite_not, false_or, or_false, true_or, or_true, SWs, swk_0, swk_1, s_isOf, o1]
    · refine callF_at (by omega) (by decide) (Nat.le_of_ble_eq_true rfl) (fun d _ => ?_)
      show Ev X d 251 0 [.ref 177, .int u, .int v, .retAddr 0, .retAddr 0, .retAddr 0, .retAddr 0, .retAddr 0] [] ( mk I J) _
      simp (disch := first | omega | assumption | exact rfl) only [U_251_0, U_251_1, U_251_2, XX, QQ, WW, KK, QX, SHs, RRs, Nat.reduceAdd, Nat.reduceMul, Nat.reduceLeDiff, Nat.reduceEqDiff, List.length_cons, List.length_nil, decide_true, decide_false, Bool.true_and, Bool.and_true, Bool.false_and, Bool.and_false, false_and, and_false, Bool.false_eq_true, Bool.true_eq_false, reduceCtorEq, eq_self, if_true, if_false, true_and, and_true, not_true_eq_false, not_false_eq_true, if_pos, if_neg, z_ite_not, false_or, or_false, true_or, or_true, SWs, swk_0, swk_1, r_isWall, o2]
