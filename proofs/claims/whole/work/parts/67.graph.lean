/-! ===== what hangs together: reach, least ones, counts ===== -/
def Rch (S : Nat → Prop) (e : Nat → Nat → Prop) (p q : Nat) : Prop := ∀ T : Nat → Prop, T p → (∀ x y, T x → S x → S y → e x y → T y) → T q
section RC
variable {S : Nat → Prop} {e : Nat → Nat → Prop} {p q r x y : Nat}
theorem Rch_refl : Rch S e p p := fun _ h _ => h
theorem Rch_step (h : Rch S e p x) (hx : S x) (hy : S y) (he : e x y) : Rch S e p y := fun T h1 h2 => h2 x y (h T h1 h2) hx hy he
theorem Rch_trans (h : Rch S e p q) (h2 : Rch S e q r) : Rch S e p r := fun T a b => h2 T (h T a b) b
theorem Rch_sym (hs : ∀ x y, S x → S y → e x y → e y x) (h : Rch S e p q) : Rch S e q p := h (fun z => Rch S e z p) Rch_refl (fun _ _ hx sx sy exy => Rch_trans (Rch_step Rch_refl sy sx (hs _ _ sx sy exy)) hx)
theorem Rch_S (hp : S p) (h : Rch S e p q) : S q := h S hp (fun _ _ _ _ sy _ => sy)
end RC
def rep (S : Nat → Prop) (e : Nat → Nat → Prop) (p : Nat) : Prop := S p ∧ ∀ q, q < p → S q → ¬ Rch S e p q
theorem ct_inj {p q : Nat → Bool} {N M : Nat} {f : Nat → Nat} (h : ∀ i, i < N → p i = true → f i < M ∧ q (f i) = true) (hi : ∀ i j, i < N → j < N → p i = true → p j = true → f i = f j → i = j) : fb_ct p N ≤ fb_ct q M := by
  refine fb_holes (fb_ct q M) (fb_ct p N) (fun m => fb_ct q (f (kth p N m))) (fun m hm => ?_) (fun m m' hmm hm' he => ?_)
  · obtain ⟨k1, k2, _⟩ := kth_spec hm
    obtain ⟨a, b⟩ := h _ k1 k2
    exact kth_lt a b
  · obtain ⟨k1, k2, k3⟩ := kth_spec (show m < fb_ct p N by omega)
    obtain ⟨l1, l2, l3⟩ := kth_spec hm'
    obtain ⟨a, b⟩ := h _ k1 k2
    obtain ⟨c, d⟩ := h _ l1 l2
    have := fb_ct_kth_one b d he
    have := hi _ _ k1 l1 k2 l2 this
    rw [this] at k3; omega
theorem ct_bij {p q : Nat → Bool} {N M : Nat} {f g : Nat → Nat} (h : ∀ i, i < N → p i = true → f i < M ∧ q (f i) = true ∧ g (f i) = i) (h2 : ∀ j, j < M → q j = true → g j < N ∧ p (g j) = true ∧ f (g j) = j) : fb_ct p N = fb_ct q M := by
  apply Nat.le_antisymm
  · exact ct_inj (f := f) (fun i a b => ⟨(h i a b).1, (h i a b).2.1⟩) (fun i j a b c d z => by rw [← (h i a c).2.2, ← (h j b d).2.2, z])
  · exact ct_inj (f := g) (fun i a b => ⟨(h2 i a b).1, (h2 i a b).2.1⟩) (fun i j a b c d z => by rw [← (h2 i a c).2.2, ← (h2 j b d).2.2, z])
theorem rep_le {S1 S2 : Nat → Prop} {e1 e2 : Nat → Nat → Prop} {N M : Nat} {f g : Nat → Nat} (s1 : ∀ x y, S1 x → S1 y → e1 x y → e1 y x) (s2 : ∀ x y, S2 x → S2 y → e2 x y → e2 y x) (hS1 : ∀ i, S1 i → i < N) (hS2 : ∀ i, S2 i → i < M) (hf : ∀ i, S1 i → S2 (f i) ∧ g (f i) = i) (hg : ∀ j, S2 j → S1 (g j) ∧ f (g j) = j) (he : ∀ i j, S1 i → S1 j → (e1 i j ↔ e2 (f i) (f j))) : fb_ct (fun p => cd (rep S1 e1 p)) N ≤ fb_ct (fun p => cd (rep S2 e2 p)) M := by
  have back : ∀ p q, S1 p → Rch S2 e2 (f p) q → Rch S1 e1 p (g q) := by
    intro p q hp h
    refine h (fun y => Rch S1 e1 p (g y)) ?_ ?_
    · show Rch S1 e1 p (g (f p)); rw [(hf p hp).2]; exact Rch_refl
    · intro x y hx sx sy exy
      refine Rch_step hx (hg x sx).1 (hg y sy).1 ?_
      rw [he _ _ (hg x sx).1 (hg y sy).1, (hg x sx).2, (hg y sy).2]; exact exy
  have least : ∀ p, S1 p → ∃ q, q < M ∧ (S2 q ∧ Rch S2 e2 (f p) q) ∧ ∀ q', q' < q → ¬ (S2 q' ∧ Rch S2 e2 (f p) q') := by
    intro p hp
    have := @fb_first (fun q => S2 q ∧ Rch S2 e2 (f p) q) (fun _ => Classical.propDecidable _) M ⟨f p, hS2 _ (hf p hp).1, (hf p hp).1, Rch_refl⟩
    obtain ⟨q, a, b, c⟩ := this
    exact ⟨q, a, b, c⟩
  refine ct_inj (f := fun p => @dite _ (S1 p) (Classical.propDecidable _) (fun h => Classical.choose (least p h)) (fun _ => 0)) (fun p hp h => ?_) (fun p p' hp hp' h h' z => ?_)
  · have r := cd_iff.mp h
    rw [dif_pos r.1]
    obtain ⟨c1, ⟨c2, c3⟩, c4⟩ := Classical.choose_spec (least p r.1)
    refine ⟨c1, cd_iff.mpr ⟨c2, fun q' hq' sq' hr => ?_⟩⟩
    exact c4 q' hq' ⟨sq', Rch_trans c3 hr⟩
  · have r := cd_iff.mp h
    have r' := cd_iff.mp h'
    rw [dif_pos r.1, dif_pos r'.1] at z
    obtain ⟨c1, ⟨c2, c3⟩, c4⟩ := Classical.choose_spec (least p r.1)
    obtain ⟨d1, ⟨d2, d3⟩, d4⟩ := Classical.choose_spec (least p' r'.1)
    rw [← z] at d3
    have hr : Rch S1 e1 p p' := by
      have a := back p _ r.1 (Rch_trans c3 (Rch_sym s2 d3))
      rw [(hf p' r'.1).2] at a
      exact a
    rcases Nat.lt_trichotomy p p' with w | w | w
    · exact absurd (Rch_sym s1 hr) (r'.2 p w r.1)
    · exact w
    · exact absurd hr (r.2 p' w r'.1)
theorem rep_eq {S1 S2 : Nat → Prop} {e1 e2 : Nat → Nat → Prop} {N M : Nat} {f g : Nat → Nat} (s1 : ∀ x y, S1 x → S1 y → e1 x y → e1 y x) (s2 : ∀ x y, S2 x → S2 y → e2 x y → e2 y x) (hS1 : ∀ i, S1 i → i < N) (hS2 : ∀ i, S2 i → i < M) (hf : ∀ i, S1 i → S2 (f i) ∧ g (f i) = i) (hg : ∀ j, S2 j → S1 (g j) ∧ f (g j) = j) (he : ∀ i j, S1 i → S1 j → (e1 i j ↔ e2 (f i) (f j))) : fb_ct (fun p => cd (rep S1 e1 p)) N = fb_ct (fun p => cd (rep S2 e2 p)) M := by
  apply Nat.le_antisymm
  · exact rep_le s1 s2 hS1 hS2 hf hg he
  · exact rep_le s2 s1 hS2 hS1 hg hf (fun i j hi hj => by rw [he _ _ (hg i hi).1 (hg j hj).1, (hg i hi).2, (hg j hj).2])
/-- one least one is taken with all that hangs together with it -/
theorem rep_take {S : Nat → Prop} {e : Nat → Nat → Prop} {N p : Nat} {R R' : Nat → Prop} (hs : ∀ x y, S x → S y → e x y → e y x) (hN : p < N) (hRS : ∀ x, R x → S x) (hcl : ∀ x y, R x → S y → e x y → R y) (hp : R p) (hmin : ∀ q, q < p → ¬ R q) (hR' : ∀ x, R' x ↔ R x ∧ ¬ Rch S e p x) : fb_ct (fun x => cd (rep S e x ∧ R x)) N = fb_ct (fun x => cd (rep S e x ∧ R' x)) N + 1 ∧ (∀ x, R' x → S x) ∧ (∀ x y, R' x → S y → e x y → R' y) := by
  have inR : ∀ x, Rch S e p x → R x := fun x h => h R hp (fun _ _ a _ c d => hcl _ _ a c d)
  have hrep : rep S e p := ⟨hRS p hp, fun q hq _ hr => hmin q hq (inR q hr)⟩
  refine ⟨?_, fun x hx => hRS x ((hR' x).mp hx).1, fun x y hx hy he => ?_⟩
  · have u := fb_ct_upd (fun x => cd (rep S e x ∧ R x)) false hN
    rw [show (if cd (rep S e p ∧ R p) = true then 1 else 0) = 1 from if_pos (cd_iff.mpr ⟨hrep, hp⟩)] at u
    simp only [Bool.false_eq_true, if_false, Nat.add_zero] at u
    rw [← u]
    congr 1
    refine fb_ct_cong (fun x _ => ?_)
    by_cases z : x = p
    · subst z
      rw [if_pos rfl]
      symm
      rw [cd_f]
      rintro ⟨_, b⟩
      exact ((hR' x).mp b).2 Rch_refl
    · rw [if_neg z, Bool.eq_iff_iff, cd_iff, cd_iff]
      constructor
      · rintro ⟨a, b⟩
        refine ⟨a, (hR' x).mpr ⟨b, fun hr => ?_⟩⟩
        rcases Nat.lt_or_ge x p with w | w
        · exact hmin x w b
        · exact a.2 p (by omega) (hRS p hp) (Rch_sym hs hr)
      · rintro ⟨a, b⟩; exact ⟨a, ((hR' x).mp b).1⟩
  · obtain ⟨a, b⟩ := (hR' x).mp hx
    refine (hR' y).mpr ⟨hcl x y a hy he, fun hr => b ?_⟩
    exact Rch_step hr hy (hRS x a) (hs _ _ (hRS x a) hy he)
theorem pop_lt {x y : Nat} (hy : y < 2 ^ 64) (h : ∀ i, x.testBit i = true → y.testBit i = true) (hne : y ≠ x) : pop x < pop y := by
  have hx : ∀ i, x.testBit i = true → i < 64 := fun i hi => tb_lt hy (h i hi)
  have : ∃ i, y.testBit i = true ∧ x.testBit i = false := Classical.byContradiction (fun no => hne (nat_ext (fun i => ⟨fun z => by
    cases hc : x.testBit i with
    | true => rfl
    | false => exact absurd ⟨i, z, hc⟩ no, h i⟩)))
  obtain ⟨i, h1, h2⟩ := this
  have i64 := tb_lt hy h1
  have u := fb_ct_upd x.testBit true i64
  rw [h2] at u
  simp only [Bool.false_eq_true, if_false, if_true, Nat.add_zero] at u
  have s : fb_ct (fun k => if k = i then true else x.testBit k) 64 ≤ fb_ct y.testBit 64 := fb_ct_sub (fun k _ hk => by
    by_cases z : k = i
    · rw [z]; exact h1
    · rw [if_neg z] at hk; exact h k hk)
  show fb_ct x.testBit 64 < fb_ct y.testBit 64
  omega
theorem low_bit {x : Nat} (hx : x < 2 ^ 64) (h0 : x ≠ 0) : ∃ p, p < 64 ∧ x.testBit p = true ∧ (∀ q, q < p → x.testBit q = false) ∧ lN x &&& -(lN x) = lN (2 ^ p) := by
  have ex : ∃ p, p < 64 ∧ x.testBit p = true := Classical.byContradiction (fun no => h0 (nat_ext (fun i => by
    rw [Nat.zero_testBit]
    exact ⟨fun z => absurd ⟨i, tb_lt hx z, z⟩ no, fun z => by cases z⟩)))
  obtain ⟨p, p1, p2, p3⟩ := fb_first (p := fun p => x.testBit p = true) ex
  have p3' : ∀ q, q < p → x.testBit q = false := fun q hq => by simpa using p3 q hq
  refine ⟨p, p1, p2, p3', ?_⟩
  have e : -(lN x) = lN (nt x + 1) := by
    have a : lN (nt x + 1) + lN x = lN 0 := by
      rw [q_ladd, wb_mod]
      congr 1
      unfold nt; omega
    have b : -(lN x) = lN 0 - lN x := by show _ = (0 : Int64) - lN x; rw [Int64.zero_sub]
    rw [b, ← a, Int64.add_sub_cancel]
  rw [e, fb_andL]
  congr 1
  have inc := inc_bits (y := nt x) (p := p) (by rw [nt_tb hx, p2]; simp) (fun q hq => by rw [nt_tb hx, p3' q hq]; simp; omega)
  apply nat_ext
  intro q
  rw [Nat.testBit_and, Bool.and_eq_true, inc, Nat.testBit_two_pow, decide_eq_true_iff]
  constructor
  · rintro ⟨a, b⟩
    by_cases z : q < p
    · rw [p3' q z] at a; cases a
    · rw [if_neg z] at b
      by_cases z2 : q = p
      · exact z2.symm
      · rw [if_neg z2, nt_tb hx, a] at b; simp at b
  · rintro rfl
    exact ⟨p2, by rw [if_neg (by omega), if_pos rfl]⟩
/-! the class's two methods -/
theorem s_hanging {X : Nat × (Nat → Int32)} {d : Nat} {M : Mem} {s p : Nat} (hd : 3 ≤ d) (hs : s < 2 ^ 64) (hp : s.testBit p = true) : callF X d 8 [.long (lN s), .long (lN (2 ^ p))] M = some (some (.long (lN (b64 (fun q => Rch (fun z => s.testBit z = true) adj p q)))), M) := by
  have p64 := tb_lt hs hp
  refine callF_at (by omega) (by decide) (Nat.le_of_ble_eq_true rfl) (fun d _ => ?_)
  show Ev X d 8 0 [.long (lN s), .retAddr 0, .long (lN (2 ^ p)), .retAddr 0, .retAddr 0, .retAddr 0, .retAddr 0, .retAddr 0, .retAddr 0] [] M _
  simp (disch := first | omega | assumption | exact rfl) only [U_8_0, XX, QQ, WW, KK, QX, SHs, RRs, Nat.reduceAdd, Nat.reduceMul, Nat.reduceLeDiff, Nat.reduceEqDiff, List.length_cons, List.length_nil, decide_true, decide_false, Bool.true_and, Bool.and_true, Bool.false_and, Bool.and_false, false_and, and_false, Bool.false_eq_true, Bool.true_eq_false, reduceCtorEq, eq_self, if_true, if_false, true_and, and_true, not_true_eq_false, not_false_eq_true, if_pos, if_neg, z_ite_not, false_or, or_false, true_or, or_true, SWs, swk_0, swk_1]
  obtain ⟨H, hH⟩ : ∃ H, H = b64 (fun q => Rch (fun z => s.testBit z = true) adj p q) := ⟨_, rfl⟩
  rw [← hH]
  refine lp0 (n := 64) (P := fun i => ∀ (part : Nat) (u7 u8 : Value), part.testBit p = true → (∀ q, part.testBit q = true → s.testBit q = true ∧ Rch (fun z => s.testBit z = true) adj p q) → i + 1 ≤ pop part → Ev X d 8 1 [.long (lN s), .retAddr 0, .long (lN (2 ^ p)), .retAddr 0, .long (lN part), .retAddr 0, .int (nI i), u7, u8] [] M (some (.long (lN H)), M)) ?_ ?_ (2 ^ p) _ _ ?_ ?_ ?_
  · intro part u7 u8 _ _ h
    have := pop_le part
    omega
  · intro i hi ih part u7 u8 h1 h2 h3
    have part64 : part < 2 ^ 64 := by
      apply Nat.lt_pow_two_of_testBit
      intro j hj
      cases hc : part.testBit j with
      | false => rfl
      | true => have := tb_lt hs (h2 j hc).1; omega
    obtain ⟨w, hw⟩ : ∃ w, w = part ||| arN part &&& s := ⟨_, rfl⟩
    have w64 : w < 2 ^ 64 := by rw [hw]; exact Nat.or_lt_two_pow part64 (Nat.lt_of_le_of_lt Nat.and_le_right hs)
    have wt : ∀ q, w.testBit q = true ↔ part.testBit q = true ∨ (∃ p', p' < 64 ∧ part.testBit p' = true ∧ adj p' q) ∧ s.testBit q = true := by
      intro q
      rw [hw, Nat.testBit_or, Bool.or_eq_true, Nat.testBit_and, Bool.and_eq_true]
      unfold arN
      rw [b64_tb]
      constructor
      · rintro (a | ⟨⟨_, a⟩, b⟩)
        · exact .inl a
        · exact .inr ⟨a, b⟩
      · rintro (a | ⟨a, b⟩)
        · exact .inl a
        · exact .inr ⟨⟨tb_lt hs b, a⟩, b⟩
    have ar := s_around (X := X) (d := d) (M := M) (by omega) part64
    have lw : (lg_cmp (lN w) (lN part) = 0) = (w = part) := by
      rw [lg0]
      exact propext ⟨fun z => by
        have := congrArg (fun z => z.toBitVec.toNat) z
        simp only [wb_tn w64, wb_tn part64] at this
        exact this, fun z => by rw [z]⟩
    rw [U_8_1]
    by_cases z : w = part
    · have e : part = H := by
        rw [hH]
        apply nat_ext
        intro q
        rw [b64_tb]
        constructor
        · intro a; exact ⟨tb_lt part64 a, (h2 q a).2⟩
        · rintro ⟨_, a⟩
          refine a (fun q => part.testBit q = true) h1 (fun x y hx _ sy exy => ?_)
          rw [← z, wt]
          exact .inr ⟨⟨x, tb_lt part64 hx, hx, exy⟩, sy⟩
      rw [hw] at z
      rw [hw, z] at lw
      rw [e] at z ar
      rw [e] at lw ⊢
      simp (disch := first | omega | assumption | exact rfl) only [U_8_2, U_8_3, U_8_5, XX, QQ, WW, KK, QX, SHs, RRs, Nat.reduceAdd, Nat.reduceMul, Nat.reduceLeDiff, Nat.reduceEqDiff, List.length_cons, List.length_nil, decide_true, decide_false, Bool.true_and, Bool.and_true, Bool.false_and, Bool.and_false, false_and, and_false, Bool.false_eq_true, Bool.true_eq_false, reduceCtorEq, eq_self, if_true, if_false, true_and, and_true, not_true_eq_false, not_false_eq_true, if_pos, if_neg, z_ite_not, false_or, or_false, true_or, or_true, SWs, swk_0, swk_1, ar, fb_andL, fb_orL, z, lg0]
    · have q := ih w (.long (lN w)) (.retAddr 0) ((wt p).mpr (.inl h1)) (fun q hq => by
        rcases (wt q).mp hq with a | ⟨⟨p', b1, b2, b3⟩, c⟩
        · exact h2 q a
        · exact ⟨c, Rch_step (h2 p' b2).2 (h2 p' b2).1 c b3⟩) (by
        have := pop_lt w64 (fun i hi => (wt i).mpr (.inl hi)) z
        omega)
      rw [hw] at q lw z
      have z' := z
      simp only [z', eq_iff_iff, iff_false] at lw
      simp (disch := first | omega | assumption | exact rfl) only [U_8_2, U_8_4, XX, QQ, WW, KK, QX, SHs, RRs, Nat.reduceAdd, Nat.reduceMul, Nat.reduceLeDiff, Nat.reduceEqDiff, List.length_cons, List.length_nil, decide_true, decide_false, Bool.true_and, Bool.and_true, Bool.false_and, Bool.and_false, false_and, and_false, Bool.false_eq_true, Bool.true_eq_false, reduceCtorEq, eq_self, if_true, if_false, true_and, and_true, not_true_eq_false, not_false_eq_true, if_pos, if_neg, z_ite_not, false_or, or_false, true_or, or_true, SWs, swk_0, swk_1, ar, fb_andL, fb_orL, lw]
      exact q
  · rw [Nat.testBit_two_pow]; simp
  · intro q hq
    rw [Nat.testBit_two_pow, decide_eq_true_iff] at hq
    subst hq
    exact ⟨hp, Rch_refl⟩
  · have : 2 ^ p ≠ 0 := Nat.ne_of_gt (Nat.two_pow_pos p)
    have l : 2 ^ p < 2 ^ 64 := pw_lt p64
    exact Nat.pos_of_ne_zero (fun z => this ((pop_eq0 l).mp z))
theorem s_parts {X : Nat × (Nat → Int32)} {d : Nat} {M : Mem} {x : Nat} (hd : 4 ≤ d) (hx : x < 2 ^ 64) : callF X d 7 [.long (lN x)] M = some (some (.int (nI (fb_ct (fun p => cd (rep (fun z => x.testBit z = true) adj p)) 64))), M) := by
  refine callF_at (by omega) (by decide) (Nat.le_of_ble_eq_true rfl) (fun d _ => ?_)
  show Ev X d 7 0 [.long (lN x), .retAddr 0, .retAddr 0, .retAddr 0, .retAddr 0, .retAddr 0] [] M _
  simp (disch := first | omega | assumption | exact rfl) only [U_7_0, XX, QQ, WW, KK, QX, SHs, RRs, Nat.reduceAdd, Nat.reduceMul, Nat.reduceLeDiff, Nat.reduceEqDiff, List.length_cons, List.length_nil, decide_true, decide_false, Bool.true_and, Bool.and_true, Bool.false_and, Bool.and_false, false_and, and_false, Bool.false_eq_true, Bool.true_eq_false, reduceCtorEq, eq_self, if_true, if_false, true_and, and_true, not_true_eq_false, not_false_eq_true, if_pos, if_neg, z_ite_not, false_or, or_false, true_or, or_true, SWs, swk_0, swk_1]
  obtain ⟨S, hS⟩ : ∃ S : Nat → Prop, S = fun z => x.testBit z = true := ⟨_, rfl⟩
  rw [← hS]
  have tot := fb_ct_le (fun p => cd (rep S adj p)) 64
  refine lp0 (n := 65) (P := fun i => ∀ (rest : Nat), rest < 2 ^ 64 → (∀ z, rest.testBit z = true → S z) → (∀ y z, rest.testBit y = true → S z → adj y z → rest.testBit z = true) → fb_ct (fun p => cd (rep S adj p)) 64 = i + fb_ct (fun p => cd (rep S adj p ∧ rest.testBit p = true)) 64 → Ev X d 7 1 [.long (lN x), .retAddr 0, .int (nI i), .long (lN rest), .retAddr 0, .int (nI i)] [] M (some (.int (nI (fb_ct (fun p => cd (rep S adj p)) 64))), M)) ?_ ?_ x hx ?_ ?_ ?_
  · intro rest _ _ _ h; omega
  · intro i hi ih rest r64 h1 h2 h3
    rw [U_7_1]
    by_cases z : rest = 0
    · subst z
      have e : fb_ct (fun p => cd (rep S adj p ∧ (0 : Nat).testBit p = true)) 64 = 0 := fb_ct_zero.mpr (fun k _ => by
        rw [cd_f, Nat.zero_testBit]; rintro ⟨_, w⟩; cases w)
      rw [e, Nat.add_zero] at h3
      rw [h3]
      rcases Nat.lt_or_ge i 64 with w | w
      · simp (disch := first | omega | assumption | exact rfl) only [U_7_2, U_7_4, XX, QQ, WW, KK, QX, SHs, RRs, Nat.reduceAdd, Nat.reduceMul, Nat.reduceLeDiff, Nat.reduceEqDiff, List.length_cons, List.length_nil, decide_true, decide_false, Bool.true_and, Bool.and_true, Bool.false_and, Bool.and_false, false_and, and_false, Bool.false_eq_true, Bool.true_eq_false, reduceCtorEq, eq_self, if_true, if_false, true_and, and_true, not_true_eq_false, not_false_eq_true, if_pos, if_neg, z_ite_not, false_or, or_false, true_or, or_true, SWs, swk_0, swk_1, lg0]
      · simp (disch := first | omega | assumption | exact rfl) only [U_7_2, U_7_4, XX, QQ, WW, KK, QX, SHs, RRs, Nat.reduceAdd, Nat.reduceMul, Nat.reduceLeDiff, Nat.reduceEqDiff, List.length_cons, List.length_nil, decide_true, decide_false, Bool.true_and, Bool.and_true, Bool.false_and, Bool.and_false, false_and, and_false, Bool.false_eq_true, Bool.true_eq_false, reduceCtorEq, eq_self, if_true, if_false, true_and, and_true, not_true_eq_false, not_false_eq_true, if_pos, if_neg, z_ite_not, false_or, or_false, true_or, or_true, SWs, swk_0, swk_1, lg0]
    · obtain ⟨p, p1, p2, p3, p4⟩ := low_bit r64 z
      have hh := s_hanging (X := X) (d := d) (M := M) (by omega) r64 p2
      obtain ⟨H, hH⟩ : ∃ H, H = b64 (fun q => Rch (fun z => rest.testBit z = true) adj p q) := ⟨_, rfl⟩
      rw [← hH] at hh
      have H64 : H < 2 ^ 64 := by rw [hH]; exact b64_lt _
      have sub : ∀ q, Rch (fun z => rest.testBit z = true) adj p q ↔ Rch S adj p q := by
        intro q
        constructor
        · intro h
          exact h (fun q => Rch S adj p q) Rch_refl (fun a b ha sa sb eab => Rch_step ha (h1 a sa) (h1 b sb) eab)
        · intro h
          have : rest.testBit q = true ∧ Rch (fun z => rest.testBit z = true) adj p q := h (fun q => rest.testBit q = true ∧ Rch (fun z => rest.testBit z = true) adj p q) ⟨p2, Rch_refl⟩ (fun a b ha _ sb eab => ⟨h2 a b ha.1 sb eab, Rch_step ha.2 ha.1 (h2 a b ha.1 sb eab) eab⟩)
          exact this.2
      have r' : ∀ y, (rest &&& nt H).testBit y = true ↔ rest.testBit y = true ∧ ¬ Rch S adj p y := by
        intro y
        rw [Nat.testBit_and, Bool.and_eq_true, nt_tb H64, Bool.and_eq_true, decide_eq_true_iff, Bool.not_eq_true']
        constructor
        · rintro ⟨a, b, c⟩
          refine ⟨a, fun w => ?_⟩
          have : H.testBit y = true := by rw [hH, b64_tb]; exact ⟨b, (sub y).mpr w⟩
          rw [this] at c; cases c
        · rintro ⟨a, b⟩
          refine ⟨a, tb_lt r64 a, ?_⟩
          cases hc : H.testBit y with
          | false => rfl
          | true => rw [hH, b64_tb] at hc; exact absurd ((sub y).mp hc.2) b
      have tk := rep_take (S := S) (e := adj) (N := 64) (R := fun y => rest.testBit y = true) (R' := fun y => (rest &&& nt H).testBit y = true) (fun a b _ _ h => adj_sym.mp h) p1 h1 h2 p2 (fun q hq w => by rw [p3 q hq] at w; cases w) r'
      obtain ⟨t1, t2, t3⟩ := tk
      have i64 : i < 64 := by omega
      have q := ih (rest &&& nt H) (Nat.lt_of_le_of_lt Nat.and_le_left r64) t2 t3 (by omega)
      have nH := l_not H64
      have z0 := lN0 r64
      have z1 : ¬ (lg_cmp (lN rest) (lN 0) = 0) := by rw [lg0, z0]; exact z
      simp (disch := first | omega | assumption | exact rfl) only [U_7_2, U_7_3, XX, QQ, WW, KK, QX, SHs, RRs, Nat.reduceAdd, Nat.reduceMul, Nat.reduceLeDiff, Nat.reduceEqDiff, List.length_cons, List.length_nil, decide_true, decide_false, Bool.true_and, Bool.and_true, Bool.false_and, Bool.and_false, false_and, and_false, Bool.false_eq_true, Bool.true_eq_false, reduceCtorEq, eq_self, if_true, if_false, true_and, and_true, not_true_eq_false, not_false_eq_true, if_pos, if_neg, z_ite_not, false_or, or_false, true_or, or_true, SWs, swk_0, swk_1, z1, p4, hh, nH, fb_andL]
      exact q
  · intro z hz; rw [hS]; exact hz
  · intro y z _ hz _; rw [hS] at hz; exact hz
  · rw [Nat.zero_add]
    refine fb_ct_cong (fun k _ => ?_)
    rw [Bool.eq_iff_iff, cd_iff, cd_iff]
    constructor
    · intro a; exact ⟨a, by have := a.1; rw [hS] at this; exact this⟩
    · intro a; exact a.1
