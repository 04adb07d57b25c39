/-! ===== borne: subsets of places; the class ===== -/
def nt (x : Nat) : Nat := 2 ^ 64 - (x + 1)
theorem nt_tb {x i : Nat} (hx : x < 2 ^ 64) : (nt x).testBit i = (decide (i < 64) && !x.testBit i) := Nat.testBit_two_pow_sub_succ hx i
theorem nt_lt (x : Nat) : nt x < 2 ^ 64 := by unfold nt; omega
theorem l_not {x : Nat} (hx : x < 2 ^ 64) : lN x ^^^ -(lN 1) = lN (nt x) := by
  have e : -(lN 1) = (-1 : Int64) := by decide
  rw [e]
  apply wb_inj
  have ha : (-1 : Int64).toBitVec = BitVec.allOnes 64 := by decide
  rw [Int64.toBitVec_xor, ha, wb_tb, wb_tb]
  apply BitVec.eq_of_getLsbD_eq
  intro i hi
  rw [BitVec.getLsbD_xor, BitVec.getLsbD_allOnes, BitVec.getLsbD_ofNat, BitVec.getLsbD_ofNat, nt_tb hx]
  simp [hi]
theorem or_add {x y : Nat} (hx : x < 2 ^ 64) (hy : y < 2 ^ 64) (h : ∀ i, i < 64 → ¬ (x.testBit i = true ∧ y.testBit i = true)) : x + y = x ||| y := by
  have hz : BitVec.ofNat 64 x &&& BitVec.ofNat 64 y = 0#64 := by
    apply BitVec.eq_of_getLsbD_eq
    intro i hi
    rw [BitVec.getLsbD_and, BitVec.getLsbD_ofNat, BitVec.getLsbD_ofNat, BitVec.getLsbD_zero]
    have := h i hi
    cases hx' : x.testBit i <;> cases hy' : y.testBit i <;> simp_all
  have t := BitVec.toNat_add_of_and_eq_zero hz
  have e := BitVec.add_eq_or_of_and_eq_zero _ _ hz
  rw [e, BitVec.toNat_or, BitVec.toNat_ofNat, BitVec.toNat_ofNat, Nat.mod_eq_of_lt hx, Nat.mod_eq_of_lt hy] at t
  exact t.symm
theorem l_suband {x f : Nat} (hx : x < 2 ^ 64) (hf : f < 2 ^ 64) (hs : ∀ p, x.testBit p = true → f.testBit p = true) : (lN x - lN f) &&& lN f = lN (((x ||| nt f) + 1) % 2 ^ 64 &&& f) := by
  have e1 : lN x = lN (x + 2 ^ 64) := (wb_mod x).trans ((congrArg lN (show x % 2 ^ 64 = (x + 2 ^ 64) % 2 ^ 64 by omega)).trans (wb_mod (x + 2 ^ 64)).symm)
  have e2 : x + 2 ^ 64 - f = (x ||| nt f) + 1 := by
    rw [← or_add hx (nt_lt f) (fun i hi => by
      rintro ⟨a, b⟩
      rw [nt_tb hf, hs i a] at b
      simp at b)]
    unfold nt; omega
  rw [e1, q_lsub (by omega), e2, wb_mod, fb_andL]
theorem inc_bits {y p : Nat} (h0 : y.testBit p = false) (h1 : ∀ q, q < p → y.testBit q = true) (q : Nat) : (y + 1).testBit q = if q < p then false else if q = p then true else y.testBit q := by
  have hm : y % 2 ^ (p + 1) = 2 ^ p - 1 := by
    apply Nat.eq_of_testBit_eq
    intro i
    rw [Nat.testBit_mod_two_pow, Nat.testBit_two_pow_sub_one]
    by_cases z : i < p
    · rw [h1 i z]; simp [z]; omega
    · by_cases z2 : i = p
      · subst z2; rw [h0]; simp
      · have : ¬ i < p + 1 := by omega
        simp [z, this]
  have hp := Nat.two_pow_pos p
  have hy : y = 2 ^ (p + 1) * (y / 2 ^ (p + 1)) + (2 ^ p - 1) := by
    have := Nat.div_add_mod y (2 ^ (p + 1))
    omega
  have hlt : 2 ^ p < 2 ^ (p + 1) := Nat.pow_lt_pow_right (by decide) (by omega)
  have e : y + 1 = 2 ^ (p + 1) * (y / 2 ^ (p + 1)) + 2 ^ p := by omega
  rw [e, Nat.testBit_two_pow_mul_add _ hlt]
  by_cases z : q < p + 1
  · rw [if_pos z, Nat.testBit_two_pow]
    by_cases z1 : q < p
    · rw [if_pos z1, decide_eq_false (by omega)]
    · rw [if_neg z1, if_pos (by omega), decide_eq_true (by omega)]
  · rw [if_neg z, if_neg (by omega), if_neg (by omega), Nat.testBit_div_two_pow]
    congr 1; omega
/-- the k-th subset of f -/
noncomputable def pd (f k : Nat) : Nat := b64 (fun p => f.testBit p = true ∧ k.testBit (num f p) = true)
theorem pd_lt (f k : Nat) : pd f k < 2 ^ 64 := b64_lt _
theorem pd_tb {f k p : Nat} : (pd f k).testBit p = true ↔ p < 64 ∧ f.testBit p = true ∧ k.testBit (num f p) = true := b64_tb
theorem pd_next {f k : Nat} (hf : f < 2 ^ 64) (hk : k + 1 < 2 ^ pop f) : ((pd f k ||| nt f) + 1) % 2 ^ 64 &&& f = pd f (k + 1) := by
  -- the lowest place that isn't in the subset
  obtain ⟨t, ht, h0, h1⟩ : ∃ t, t < pop f ∧ k.testBit t = false ∧ ∀ m, m < t → k.testBit m = true := by
    have ex : ∃ t, t < pop f ∧ k.testBit t = false := Classical.byContradiction (fun no => by
      have : k = 2 ^ pop f - 1 := by
        apply Nat.eq_of_testBit_eq
        intro i
        rw [Nat.testBit_two_pow_sub_one]
        by_cases z : i < pop f
        · cases hc : k.testBit i with
          | true => simp [z]
          | false => exact absurd ⟨i, z, hc⟩ no
        · rw [decide_eq_false z]
          exact Nat.testBit_lt_two_pow (Nat.lt_of_lt_of_le (by omega : k < 2 ^ pop f) (Nat.pow_le_pow_right (by decide) (by omega)))
      omega)
    obtain ⟨t, a, b, c⟩ := fb_first (p := fun t => k.testBit t = false) ex
    exact ⟨t, a, b, fun m hm => by
      cases hc : k.testBit m with
      | true => rfl
      | false => exact absurd hc (c m hm)⟩
  obtain ⟨p1, p2, p3⟩ := pl_spec ht
  obtain ⟨y, hy⟩ : ∃ y, y = pd f k ||| nt f := ⟨_, rfl⟩
  have ytb : ∀ q, q < 64 → (y.testBit q = true ↔ (f.testBit q = true → k.testBit (num f q) = true)) := by
    intro q hq
    rw [hy, Nat.testBit_or, Bool.or_eq_true, pd_tb, nt_tb hf]
    cases hfq : f.testBit q <;> simp [hq]
  have y0 : y.testBit (pl f t) = false := by
    cases hc : y.testBit (pl f t) with
    | false => rfl
    | true => have := (ytb _ p1).mp hc p2; rw [p3, h0] at this; cases this
  have y1 : ∀ q, q < pl f t → y.testBit q = true := by
    intro q hq
    rw [ytb q (by omega)]
    intro hfq
    apply h1
    have a := pl_num (by omega : q < 64) hfq
    have b := num_lt (by omega : q < 64) hfq
    rw [← pl_ltI b ht, a]; exact hq
  have inc := inc_bits y0 y1
  have inck := inc_bits h0 h1
  rw [← hy]
  apply nat_ext
  intro q
  rw [Nat.testBit_and, Bool.and_eq_true, Nat.testBit_mod_two_pow, Bool.and_eq_true, decide_eq_true_iff, pd_tb, inc]
  constructor
  · rintro ⟨⟨a, b⟩, c⟩
    refine ⟨a, c, ?_⟩
    have a1 := pl_num a c
    have a2 := num_lt a c
    rw [inck]
    by_cases z : q < pl f t
    · rw [if_pos z] at b; cases b
    · rw [if_neg z] at b
      by_cases z2 : q = pl f t
      · rw [z2, p3, if_neg (by omega), if_pos rfl]
      · rw [if_neg z2] at b
        have : ¬ num f q < t := fun w => by rw [← pl_ltI a2 ht, a1] at w; omega
        have : num f q ≠ t := fun w => z2 (by rw [← w, a1])
        rw [if_neg (by omega), if_neg this]
        exact (ytb q a).mp b c
  · rintro ⟨a, c, b⟩
    have a1 := pl_num a c
    have a2 := num_lt a c
    refine ⟨⟨a, ?_⟩, c⟩
    rw [inck] at b
    by_cases z : num f q < t
    · rw [if_pos z] at b; cases b
    · rw [if_neg z] at b
      have zq : ¬ q < pl f t := fun w => z (by rw [← pl_ltI a2 ht, a1]; exact w)
      rw [if_neg zq]
      by_cases z2 : num f q = t
      · rw [if_pos (by rw [← z2, a1])]
      · rw [if_neg z2] at b
        rw [if_neg (fun w => z2 (by rw [w, p3]))]
        exact (ytb q a).mpr (fun _ => b)
/-- all of the n can be borne when those of k are taken away; e: who touches whom -/
def okS (e : Nat → Nat → Prop) (n k : Nat) : Prop := ∀ m, m < n → ∃ m', m' < n ∧ e m m' ∧ k.testBit m' = false
noncomputable def bst (e : Nat → Nat → Prop) (n : Nat) : Nat → Nat
  | 0 => 0
  | k + 1 => if pop (bst e n k) < pop k ∧ cd (okS e n k) = true then k else bst e n k
theorem bst_le (e : Nat → Nat → Prop) (n : Nat) : ∀ k, bst e n k ≤ k
  | 0 => Nat.le_refl _
  | k + 1 => by
    rw [bst]
    have := bst_le e n k
    split <;> omega
theorem lg0 {x y : Int64} : (lg_cmp x y = 0) = (x = y) := propext (by
  unfold lg_cmp
  by_cases h : x > y
  · rw [if_pos h]
    have : x ≠ y := fun e => by subst e; rw [gt_iff_lt, fa_lt64] at h; omega
    simp [this]
  · rw [if_neg h]
    by_cases h2 : x = y
    · simp [h2]
    · simp [h2])
theorem lN0 {a : Nat} (h : a < 2 ^ 64) : (lN a = lN 0) = (a = 0) := propext ⟨fun e => by
  have := congrArg (fun z => z.toBitVec.toNat) e
  simp only [wb_tn h, wb_tn (show 0 < 2 ^ 64 by decide)] at this
  exact this, fun e => by rw [e]⟩
theorem ok_iff {f k : Nat} (hf : f < 2 ^ 64) : f &&& nt (arN (f &&& nt (pd f k))) = 0 ↔ okS (fun m m' => adj (pl f m) (pl f m')) (pop f) k := by
  have hx : f &&& nt (pd f k) < 2 ^ 64 := Nat.lt_of_le_of_lt Nat.and_le_left hf
  have tb : ∀ p, (f &&& nt (arN (f &&& nt (pd f k)))).testBit p = true ↔ f.testBit p = true ∧ ¬ ∃ q, q < 64 ∧ f.testBit q = true ∧ (pd f k).testBit q = false ∧ adj q p := by
    intro p
    rw [Nat.testBit_and, Bool.and_eq_true, nt_tb (arN_lt _), Bool.and_eq_true, decide_eq_true_iff, Bool.not_eq_true']
    constructor
    · rintro ⟨a, b, c⟩
      refine ⟨a, ?_⟩
      rintro ⟨q, q1, q2, q3, q4⟩
      have : (arN (f &&& nt (pd f k))).testBit p = true := by
        unfold arN
        rw [b64_tb]
        exact ⟨b, q, q1, by rw [Nat.testBit_and, nt_tb (pd_lt f k), q2, q3]; simp [q1], q4⟩
      rw [this] at c; cases c
    · rintro ⟨a, b⟩
      have hp := tb_lt hf a
      refine ⟨a, hp, ?_⟩
      cases hc : (arN (f &&& nt (pd f k))).testBit p with
      | false => rfl
      | true =>
        unfold arN at hc
        rw [b64_tb] at hc
        obtain ⟨_, q, q1, q2, q3⟩ := hc
        rw [Nat.testBit_and, nt_tb (pd_lt f k), Bool.and_eq_true, Bool.and_eq_true, Bool.not_eq_true'] at q2
        exact absurd ⟨q, q1, q2.1, q2.2.2, q3⟩ b
  constructor
  · intro h m hm
    obtain ⟨p1, p2, p3⟩ := pl_spec hm
    have : ∃ q, q < 64 ∧ f.testBit q = true ∧ (pd f k).testBit q = false ∧ adj q (pl f m) := Classical.byContradiction (fun no => by
      have := (tb (pl f m)).mpr ⟨p2, no⟩
      rw [h, Nat.zero_testBit] at this; cases this)
    obtain ⟨q, q1, q2, q3, q4⟩ := this
    refine ⟨num f q, num_lt q1 q2, ?_, ?_⟩
    · show adj (pl f m) (pl f (num f q))
      rw [pl_num q1 q2]; exact adj_sym.mp q4
    · cases hc : k.testBit (num f q) with
      | false => rfl
      | true => rw [pd_tb.mpr ⟨q1, q2, hc⟩] at q3; cases q3
  · intro h
    apply nat_ext
    intro p
    rw [tb, Nat.zero_testBit]
    constructor
    · rintro ⟨a, b⟩
      exfalso
      have hp := tb_lt hf a
      obtain ⟨m', m1, m2, m3⟩ := h (num f p) (num_lt hp a)
      obtain ⟨p1, p2, p3⟩ := pl_spec m1
      rw [pl_num hp a] at m2
      refine b ⟨pl f m', p1, p2, ?_, adj_sym.mp m2⟩
      cases hc : (pd f k).testBit (pl f m') with
      | false => rfl
      | true => have := (pd_tb.mp hc).2.2; rw [p3, m3] at this; cases this
    · intro z; cases z
theorem s_mostReplaced {X : Nat × (Nat → Int32)} {d : Nat} {M : Mem} {f n : Nat} (hd : 3 ≤ d) (hf : f < 2 ^ 64) (hn : n = pop f) (hn2 : n ≤ 14) : callF X d 10 [.long (lN f), .int (nI n)] M = some (some (.int (nI (bst (fun m m' => adj (pl f m) (pl f m')) n (2 ^ n)))), M) := by
  have p2n : 2 ^ n ≤ 16384 := Nat.le_trans (Nat.pow_le_pow_right (by decide) hn2) (by decide)
  refine callF_at (by omega) (by decide) (Nat.le_of_ble_eq_true rfl) (fun d _ => ?_)
  show Ev X d 10 0 [.long (lN f), .retAddr 0, .int (nI n), .retAddr 0, .retAddr 0, .retAddr 0, .retAddr 0, .retAddr 0] [] M _
  simp (disch := first | omega | assumption | exact rfl) only [U_10_0, XX, QQ, WW, KK, QX, SHs, RRs, Nat.reduceAdd, Nat.reduceMul, Nat.reduceLeDiff, Nat.reduceEqDiff, List.length_cons, List.length_nil, decide_true, decide_false, Bool.true_and, Bool.and_true, Bool.false_and, Bool.and_false, false_and, and_false, Bool.false_eq_true, Bool.true_eq_false, reduceCtorEq, eq_self, if_true, if_false, true_and, and_true, not_true_eq_false, not_false_eq_true, if_pos, if_neg, z_ite_not, false_or, or_false, true_or, or_true, SWs, swk_0, swk_1]
  obtain ⟨E, hE⟩ : ∃ E, E = fun m m' => adj (pl f m) (pl f m') := ⟨_, rfl⟩
  rw [← hE]
  refine lpI (n := 2 ^ n) (P := fun k => ∀ rep : Int64, (k < 2 ^ n → rep = lN (pd f k)) → Ev X d 10 1 [.long (lN f), .retAddr 0, .int (nI n), .int (nI (bst E n k)), .int (nI (pop (bst E n k))), .long rep, .retAddr 0, .int (nI k)] [] M (some (.int (nI (bst E n (2 ^ n)))), M)) ?_ ?_ (fun L => ?_)
  · intro rep _
    rw [U_10_1]
    simp (disch := first | omega | assumption | exact rfl) only [U_10_6, XX, QQ, WW, KK, QX, SHs, RRs, Nat.reduceAdd, Nat.reduceMul, Nat.reduceLeDiff, Nat.reduceEqDiff, List.length_cons, List.length_nil, decide_true, decide_false, Bool.true_and, Bool.and_true, Bool.false_and, Bool.and_false, false_and, and_false, Bool.false_eq_true, Bool.true_eq_false, reduceCtorEq, eq_self, if_true, if_false, true_and, and_true, not_true_eq_false, not_false_eq_true, if_pos, if_neg, z_ite_not, false_or, or_false, true_or, or_true, SWs, swk_0, swk_1]
  · intro k hk ih rep hrep
    have hrep := hrep hk
    subst hrep
    have pl1 := pop_le (bst E n k)
    have pl2 := pop_le k
    have nx : ∀ m : Nat, m < 2 ^ 31 → Ev X d 10 1 [.long (lN f), .retAddr 0, .int (nI n), .int (nI (bst E n (k + 1))), .int (nI (pop (bst E n (k + 1)))), .long ((lN (pd f k) - lN f) &&& lN f), .retAddr 0, .int (nI (k + 1))] [] M (some (.int (nI (bst E n (2 ^ n)))), M) := fun _ _ => ih _ (fun h => by
      rw [l_suband (pd_lt f k) hf (fun p hp => (pd_tb.mp hp).2.1), pd_next hf (by rw [← hn]; exact h)])
    have q := nx 0 (by decide)
    rw [U_10_1]
    by_cases z : pop (bst E n k) < pop k
    · have l1 : f &&& nt (pd f k) < 2 ^ 64 := Nat.lt_of_le_of_lt Nat.and_le_left hf
      have l2 : f &&& nt (arN (f &&& nt (pd f k))) < 2 ^ 64 := Nat.lt_of_le_of_lt Nat.and_le_left hf
      have ar := s_around (X := X) (d := d) (M := M) (by omega) l1
      have n1 := l_not (pd_lt f k)
      have n2 := l_not (arN_lt (f &&& nt (pd f k)))
      have oi := ok_iff (k := k) hf
      rw [← hn] at oi
      have z0 := lN0 l2
      by_cases y : f &&& nt (arN (f &&& nt (pd f k))) = 0
      · have e : bst E n (k + 1) = k := by rw [bst, if_pos ⟨z, cd_iff.mpr (by rw [hE]; exact oi.mp y)⟩]
        rw [e] at q
        simp (disch := first | omega | assumption | exact rfl) only [U_10_2, U_10_3, U_10_4, U_10_5, XX, q_le, q_lt, n_shl1, q_if_t, s_bcI, n1, n2, ar, fb_andL, lg0, z0, y, eq_self, not_true_eq_false, if_false, if_true, Nat.reduceAdd, List.length_cons, List.length_nil, Nat.reduceLeDiff, if_pos, if_neg, q_add]
        exact q
      · have e : bst E n (k + 1) = bst E n k := by
          rw [bst, if_neg]
          rintro ⟨_, w⟩
          rw [cd_iff, hE] at w
          exact y (oi.mpr w)
        rw [e] at q
        simp (disch := first | omega | assumption | exact rfl) only [U_10_2, U_10_3, U_10_4, U_10_5, XX, q_le, q_lt, n_shl1, q_if_t, s_bcI, n1, n2, ar, fb_andL, lg0, z0, y, eq_self, not_false_eq_true, if_false, if_true, Nat.reduceAdd, List.length_cons, List.length_nil, Nat.reduceLeDiff, if_pos, if_neg, q_add]
        exact q
    · have e : bst E n (k + 1) = bst E n k := by rw [bst, if_neg (fun w => z w.1)]
      rw [e] at q
      simp (disch := first | omega | assumption | exact rfl) only [U_10_2, U_10_5, XX, QQ, WW, KK, QX, SHs, RRs, Nat.reduceAdd, Nat.reduceMul, Nat.reduceLeDiff, Nat.reduceEqDiff, List.length_cons, List.length_nil, decide_true, decide_false, Bool.true_and, Bool.and_true, Bool.false_and, Bool.and_false, false_and, and_false, Bool.false_eq_true, Bool.true_eq_false, reduceCtorEq, eq_self, if_true, if_false, true_and, and_true, not_true_eq_false, not_false_eq_true, if_pos, if_neg, z_ite_not, false_or, or_false, true_or, or_true, SWs, swk_0, swk_1, s_bcI]
      exact q
  · have e0 : bst E n 0 = 0 := rfl
    rw [e0, pop_0] at L
    refine L _ (fun _ => ?_)
    congr 1
    unfold pd
    rw [b64_0 (fun p _ h => by rw [Nat.zero_testBit] at h; cases h.2)]
theorem s_lonely {X : Nat × (Nat → Int32)} {d : Nat} {M : Mem} {x : Nat} (hd : 3 ≤ d) (hx : x < 2 ^ 64) : callF X d 9 [.long (lN x)] M = some (some (.int (nI (pop (x &&& nt (arN x))))), M) := by
  refine callF_at (by omega) (by decide) (Nat.le_of_ble_eq_true rfl) (fun d _ => ?_)
  show Ev X d 9 0 [.long (lN x), .retAddr 0] [] M _
  have l2 : x &&& nt (arN x) < 2 ^ 64 := Nat.lt_of_le_of_lt Nat.and_le_left hx
  have n2 := l_not (arN_lt x)
  simp (disch := first | omega | assumption | exact rfl) only [U_9_0, XX, QQ, WW, KK, QX, SHs, RRs, Nat.reduceAdd, Nat.reduceMul, Nat.reduceLeDiff, Nat.reduceEqDiff, List.length_cons, List.length_nil, decide_true, decide_false, Bool.true_and, Bool.and_true, Bool.false_and, Bool.and_false, false_and, and_false, Bool.false_eq_true, Bool.true_eq_false, reduceCtorEq, eq_self, if_true, if_false, true_and, and_true, not_true_eq_false, not_false_eq_true, if_pos, if_neg, z_ite_not, false_or, or_false, true_or, or_true, SWs, swk_0, swk_1, s_around, n2, fb_andL, s_bcL]
/-! filled places by cells -/
theorem fil_tb {F : Nat} {B : Nat → Int32} {q : Nat} (hq : q < 64) : (fil F B).testBit q = (F.testBit q && isB B (num F q)) := by
  rw [Bool.eq_iff_iff, Bool.and_eq_true]
  unfold fil filP
  rw [b64_tb]
  constructor
  · rintro ⟨_, j, hj, e, h⟩
    obtain ⟨p1, p2, p3⟩ := pl_spec hj
    rw [e, p3]; exact ⟨p2, by simp [isB, h]⟩
  · rintro ⟨h1, h2⟩
    refine ⟨hq, num F q, num_lt hq h1, (pl_num hq h1).symm, ?_⟩
    simpa [isB] using h2
theorem fil_lt (F : Nat) (B : Nat → Int32) : fil F B < 2 ^ 64 := b64_lt _
theorem num_fil {F p : Nat} {B : Nat → Int32} (hp : p ≤ 64) : num (fil F B) p = fb_ct (isB B) (num F p) := by
  have h1 : num (fil F B) p = fb_ct (fun q => F.testBit q && isB B (num F q)) p := fb_ct_cong (fun q hq => fil_tb (by omega))
  rw [h1, ct_pl p hp]
  refine fb_ct_cong (fun j hj => ?_)
  have : num F p ≤ pop F := num_mono F hp
  rw [(pl_spec (by omega : j < pop F)).2.2]
theorem pop_fil {F : Nat} {B : Nat → Int32} : pop (fil F B) = fb_ct (isB B) (pop F) := num_fil (Nat.le_refl 64)
theorem pl_fil {F m : Nat} {B : Nat → Int32} (hm : m < fb_ct (isB B) (pop F)) : pl (fil F B) m = pl F (kth (isB B) (pop F) m) := by
  obtain ⟨k1, k2, k3⟩ := kth_spec hm
  obtain ⟨p1, p2, p3⟩ := pl_spec k1
  have t : (fil F B).testBit (pl F (kth (isB B) (pop F) m)) = true := by rw [fil_tb p1, p2, p3, k2]; rfl
  have := pl_num p1 t
  rw [num_fil (by omega), p3, k3] at this
  exact this
