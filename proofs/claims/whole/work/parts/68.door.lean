/-! ===== door ===== -/
/-- all that hangs together with brick b, by rounds -/
theorem r_close {X : Nat × (Nat → Int32)} {d : Nat} {I : Nat → Nat → Int32} {J : Nat → Nat → Int64} {y b : Nat} {nn : Nat → Nat} (hb : b < 24) (hd : 1 ≤ d) (hy : y < 2 ^ 24) (hby : y.testBit b = true) (h7 : ∀ o, o < 24 → I 187 o = nI (nn o)) (hnn : ∀ o c, (nn o).testBit c = true → y.testBit o = true ∧ y.testBit c = true) {u1 u2 u3 u4 u5 u6 u7 : Value} {r : Option Value × Mem} (hr : ∀ u10 u11, Ev X d 253 20 [.ref 177, u1, u2, u3, u4, u5, u6, u7, .int (nI b), .int (nI (bs (fun q => Rch (fun z => y.testBit z = true) (fun o c => (nn o).testBit c = true) b q))), u10, u11] [] (mk I J) r) : ∀ u11 : Value, Ev X d 253 13 [.ref 177, u1, u2, u3, u4, u5, u6, u7, .int (nI b), .int (nI (2 ^ b)), .int (nI 0), u11] [] (mk I J) r := by
  intro u11
  obtain ⟨E, hE⟩ : ∃ E : Nat → Nat → Prop, E = fun o c => (nn o).testBit c = true := ⟨_, rfl⟩
  obtain ⟨S, hS⟩ : ∃ S : Nat → Prop, S = fun z => y.testBit z = true := ⟨_, rfl⟩
  rw [← hE, ← hS] at hr
  have n24 : ∀ o, nn o < 2 ^ 24 := fun o => by
    apply Nat.lt_pow_two_of_testBit
    intro j hj
    cases hc : (nn o).testBit j with
    | false => rfl
    | true => have := tb_lt hy (hnn o j hc).2; omega
  refine lp0 (n := 24) (P := fun k => ∀ (s : Nat) (u11 : Value), s < 2 ^ 24 → s.testBit b = true → (∀ q, s.testBit q = true → S q ∧ Rch S E b q) → ((∀ o c, s.testBit o = true → (nn o).testBit c = true → s.testBit c = true) ∨ k + 1 ≤ pop s) → Ev X d 253 13 [.ref 177, u1, u2, u3, u4, u5, u6, u7, .int (nI b), .int (nI s), .int (nI k), u11] [] (mk I J) r) ?_ ?_ (2 ^ b) u11 (Nat.pow_lt_pow_right (by decide) hb) (by rw [Nat.testBit_two_pow]; simp) ?_ ?_
  · intro s u11 s24 h1 h2 h3
    have cl : ∀ o c, s.testBit o = true → (nn o).testBit c = true → s.testBit c = true := by
      rcases h3 with h | h
      · exact h
      · have := pop24 s24
        have := fb_ct_le s.testBit 24
        omega
    have e : s = bs (fun q => Rch S E b q) := by
      apply nat_ext
      intro q
      rw [bs_tb]
      constructor
      · intro a; exact ⟨tb_lt s24 a, (h2 q a).2⟩
      · rintro ⟨_, a⟩
        refine a (fun q => s.testBit q = true) h1 (fun x z hx _ _ exz => ?_)
        rw [hE] at exz
        exact cl x z hx exz
    rw [U_253_13, e]
    simp (disch := omega) only [XX, QQ, Nat.reduceLeDiff, if_true]
    exact hr _ _
  · intro k hk ih s u11 s24 h1 h2 h3
    rw [U_253_13]
    simp (disch := first | omega | assumption | exact rfl) only [U_253_14, XX, QQ, WW, KK, QX, SHs, RRs, Nat.reduceAdd, Nat.reduceMul, Nat.reduceLeDiff, Nat.reduceEqDiff, List.length_cons, List.length_nil, decide_true, decide_false, Bool.true_and, Bool.and_true, Bool.false_and, Bool.and_false, false_and, and_false, Bool.false_eq_true, Bool.true_eq_false, reduceCtorEq, eq_self, if_true, if_false, true_and, and_true, not_true_eq_false, not_false_eq_true, if_pos, if_neg, z_ite_not, false_or, or_false, true_or, or_true, SWs, swk_0, swk_1]
    -- one round
    refine lp0 (n := 24) (P := fun o => ∀ t : Nat, t < 2 ^ 24 → (∀ q, s.testBit q = true → t.testBit q = true) → (∀ q, t.testBit q = true → S q ∧ Rch S E b q) → (∀ o' c, o' < o → s.testBit o' = true → (nn o').testBit c = true → t.testBit c = true) → ((∀ o c, s.testBit o = true → (nn o).testBit c = true → s.testBit c = true) → t = s) → Ev X d 253 15 [.ref 177, u1, u2, u3, u4, u5, u6, u7, .int (nI b), .int (nI t), .int (nI k), .int (nI o)] [] (mk I J) r) ?_ ?_ s s24 (fun _ h => h) h2 (fun _ _ h => by omega) (fun _ => rfl)
    · intro t t24 g1 g2 g3 g4
      rw [U_253_15]
      have q := ih t (.int (nI 24)) t24 (g1 b h1) g2 (by
        by_cases w : ∀ o c, s.testBit o = true → (nn o).testBit c = true → s.testBit c = true
        · left; rw [g4 w]; exact w
        · right
          have hk1 : k + 1 ≤ pop s := by
            rcases h3 with h | h
            · exact absurd h w
            · exact h
          have ne : t ≠ s := fun e => w (fun o c ho hc => by
            rw [← e]; exact g3 o c (tb_lt s24 ho) ho hc)
          have := pop_lt (show t < 2 ^ 64 by omega) g1 ne
          omega)
      simp (disch := first | omega | assumption | exact rfl) only [U_253_19, XX, QQ, WW, KK, QX, SHs, RRs, Nat.reduceAdd, Nat.reduceMul, Nat.reduceLeDiff, Nat.reduceEqDiff, List.length_cons, List.length_nil, decide_true, decide_false, Bool.true_and, Bool.and_true, Bool.false_and, Bool.and_false, false_and, and_false, Bool.false_eq_true, Bool.true_eq_false, reduceCtorEq, eq_self, if_true, if_false, true_and, and_true, not_true_eq_false, not_false_eq_true, if_pos, if_neg, z_ite_not, false_or, or_false, true_or, or_true, SWs, swk_0, swk_1]
      exact q
    · intro o ho iho t t24 g1 g2 g3 g4
      rw [U_253_15]
      have e7 := h7 o ho
      cases ht : t.testBit o with
      | true =>
        have q := iho (t ||| nn o) (Nat.or_lt_two_pow t24 (n24 o)) (fun q hq => by rw [Nat.testBit_or, g1 q hq]; rfl) (fun q hq => by
          rw [Nat.testBit_or, Bool.or_eq_true] at hq
          rcases hq with hq | hq
          · exact g2 q hq
          · have sq : S q := by rw [hS]; exact (hnn o q hq).2
            exact ⟨sq, Rch_step (g2 o ht).2 (g2 o ht).1 sq (by rw [hE]; exact hq)⟩) (fun o' c ho' so' hc => by
          rw [Nat.testBit_or, Bool.or_eq_true]
          by_cases w : o' = o
          · subst w; exact .inr hc
          · exact .inl (g3 o' c (by omega) so' hc)) (fun w => by
          have e := g4 w
          rw [e] at ht ⊢
          apply nat_ext
          intro q
          rw [Nat.testBit_or, Bool.or_eq_true]
          exact ⟨fun z => z.elim id (fun z => w o q ht z), fun z => .inl z⟩)
        simp (disch := first | omega | assumption | exact rfl) only [U_253_16, U_253_17, U_253_18, XX, QQ, WW, KK, QX, SHs, RRs, Nat.reduceAdd, Nat.reduceMul, Nat.reduceLeDiff, Nat.reduceEqDiff, List.length_cons, List.length_nil, decide_true, decide_false, Bool.true_and, Bool.and_true, Bool.false_and, Bool.and_false, false_and, and_false, Bool.false_eq_true, Bool.true_eq_false, reduceCtorEq, eq_self, if_true, if_false, true_and, and_true, not_true_eq_false, not_false_eq_true, if_pos, if_neg, z_ite_not, false_or, or_false, true_or, or_true, SWs, swk_0, swk_1, ht, e7, fa_or]
        exact q
      | false =>
        have q := iho t t24 g1 g2 (fun o' c ho' so' hc => by
          by_cases w : o' = o
          · subst w; rw [g1 o' so'] at ht; cases ht
          · exact g3 o' c (by omega) so' hc) g4
        simp (disch := first | omega | assumption | exact rfl) only [U_253_16, U_253_18, XX, QQ, WW, KK, QX, SHs, RRs, Nat.reduceAdd, Nat.reduceMul, Nat.reduceLeDiff, Nat.reduceEqDiff, List.length_cons, List.length_nil, decide_true, decide_false, Bool.true_and, Bool.and_true, Bool.false_and, Bool.and_false, false_and, and_false, Bool.false_eq_true, Bool.true_eq_false, reduceCtorEq, eq_self, if_true, if_false, true_and, and_true, not_true_eq_false, not_false_eq_true, if_pos, if_neg, z_ite_not, false_or, or_false, true_or, or_true, SWs, swk_0, swk_1, ht]
        exact q
  · intro q hq
    rw [Nat.testBit_two_pow, decide_eq_true_iff] at hq
    subst hq
    exact ⟨by rw [hS]; exact hby, Rch_refl⟩
  · right
    have : 2 ^ b ≠ 0 := Nat.ne_of_gt (Nat.two_pow_pos b)
    exact Nat.pos_of_ne_zero (fun z => this ((pop_eq0 (Nat.lt_of_lt_of_le (Nat.pow_lt_pow_right (by decide) hb) (show 2 ^ 24 ≤ 2 ^ 64 by decide))).mp z))
theorem va_ne1 {B : Nat → Int32} {i j : Nat} : va_up B i (-1) j ≠ -1 ↔ j ≠ i ∧ B j ≠ -1 := by
  by_cases e : j = i
  · rw [e, vu_eq]; simp
  · rw [vu_ne e]; simp [e]
theorem fil_del {F i : Nat} {B : Nat → Int32} (hi : i < pop F) : fil F B &&& nt (1 * 2 ^ pl F i) = fil F (va_up B i (-1)) := by
  obtain ⟨p1, p2, p3⟩ := pl_spec hi
  apply nat_ext
  intro q
  rw [Nat.testBit_and, Bool.and_eq_true, Nat.one_mul, nt_tb (pw_lt p1), Bool.and_eq_true, decide_eq_true_iff, Bool.not_eq_true', Nat.testBit_two_pow, decide_eq_false_iff_not]
  constructor
  · rintro ⟨a, b, c⟩
    rw [fil_tb b, Bool.and_eq_true] at a ⊢
    refine ⟨a.1, ?_⟩
    have n : num F q ≠ i := fun w => c (by rw [← w, pl_num b a.1])
    unfold isB
    rw [vu_ne n]; exact a.2
  · intro a
    have b := tb_lt (fil_lt _ _) a
    rw [fil_tb b, Bool.and_eq_true] at a ⊢
    have n : num F q ≠ i := fun w => by
      have := a.2
      unfold isB at this
      rw [w, vu_eq] at this; simp at this
    have h2 := a.2
    unfold isB at h2 ⊢
    rw [vu_ne n] at h2
    exact ⟨⟨a.1, h2⟩, b, fun w => n (by rw [← w, p3])⟩
/-- places and bricks: one graph -/
theorem door_iso {F : Nat} {B : Nat → Int32} (h24 : pop F ≤ 24) (hB : WB B (pop F)) : fb_ct (fun p => cd (rep (fun z => (fil F B).testBit z = true) adj p)) 64 = fb_ct (fun p => cd (rep (fun z => (ins F B).testBit z = true) (fun o c => (nr F B o).testBit c = true) p)) 24 ∧ pop (fil F B &&& nt (arN (fil F B))) = fb_ct (fun b => cd ((ins F B).testBit b = true ∧ nr F B b = 0)) 24 := by
  have cell : ∀ b, (ins F B).testBit b = true → ∃ j, j < pop F ∧ B j = nI b ∧ fstI B (nI b) (pop F) 0 = nI j ∧ b < 24 := by
    intro b hb
    unfold ins at hb
    rw [bs_tb] at hb
    obtain ⟨b24, i, hi, e⟩ := hb
    rcases fstI_spec B (nI b) (pop F) 0 with ⟨_, n⟩ | ⟨j, _, j2, j3, j4, _⟩
    · exact absurd e (n i (by omega) (by omega))
    · exact ⟨j, by omega, j3, j4, b24⟩
  have pf : ∀ p, (fil F B).testBit p = true → p < 64 ∧ num F p < pop F ∧ F.testBit p = true ∧ ∃ b, b < 24 ∧ B (num F p) = nI b := by
    intro p hp
    have p64 := tb_lt (fil_lt _ _) hp
    rw [fil_tb p64, Bool.and_eq_true] at hp
    have nl := num_lt p64 hp.1
    exact ⟨p64, nl, hp.1, isB_v hB nl hp.2⟩
  obtain ⟨f, hf⟩ : ∃ f : Nat → Nat, f = fun p => (B (num F p)).toNatClampNeg := ⟨_, rfl⟩
  obtain ⟨g, hg⟩ : ∃ g : Nat → Nat, g = fun b => pl F (fstI B (nI b) (pop F) 0).toNatClampNeg := ⟨_, rfl⟩
  have Hf : ∀ p, (fil F B).testBit p = true → (ins F B).testBit (f p) = true ∧ g (f p) = p := by
    intro p hp
    obtain ⟨p64, nl, ft, b, hb, e⟩ := pf p hp
    have ef : f p = b := by rw [hf]; simp only [e]; exact nI_clamp (by omega)
    have ib : (ins F B).testBit b = true := by unfold ins; rw [bs_tb]; exact ⟨hb, num F p, nl, e⟩
    refine ⟨by rw [ef]; exact ib, ?_⟩
    obtain ⟨j, j1, j2, j3, _⟩ := cell b ib
    have : j = num F p := hB.2.1 j _ j1 nl (j2.trans e.symm) (by rw [j2]; exact nI_ne (by omega))
    rw [ef, hg]
    simp only [j3]
    rw [nI_clamp (by omega), this, pl_num p64 ft]
  have Hg : ∀ b, (ins F B).testBit b = true → (fil F B).testBit (g b) = true ∧ f (g b) = b := by
    intro b hb
    obtain ⟨j, j1, j2, j3, b24⟩ := cell b hb
    obtain ⟨p1, p2, p3⟩ := pl_spec j1
    have eg : g b = pl F j := by rw [hg]; simp only [j3]; rw [nI_clamp (by omega)]
    rw [eg]
    refine ⟨by rw [fil_tb p1, p2, p3, isB_t b24 j2]; rfl, ?_⟩
    rw [hf]; simp only [p3, j2]; exact nI_clamp (by omega)
  have He : ∀ p q, (fil F B).testBit p = true → (fil F B).testBit q = true → (adj p q ↔ (nr F B (f p)).testBit (f q) = true) := by
    intro p q hp hq
    obtain ⟨p64, nl, ft, b, hb, e⟩ := pf p hp
    obtain ⟨q64, ml, gt, c, hc, e'⟩ := pf q hq
    have ef : f p = b := by rw [hf]; simp only [e]; exact nI_clamp (by omega)
    have eg : f q = c := by rw [hf]; simp only [e']; exact nI_clamp (by omega)
    rw [ef, eg]
    unfold nr
    rw [bs_tb]
    constructor
    · intro a
      exact ⟨hc, num F p, num F q, nl, ml, e, by rw [pl_num p64 ft, pl_num q64 gt]; exact a, e'⟩
    · rintro ⟨_, i, j, hi, hj, ei, a, ej⟩
      have h1 : i = num F p := hB.2.1 i _ hi nl (ei.trans e.symm) (by rw [ei]; exact nI_ne (by omega))
      have h2 : j = num F q := hB.2.1 j _ hj ml (ej.trans e'.symm) (by rw [ej]; exact nI_ne (by omega))
      rw [h1, h2, pl_num p64 ft, pl_num q64 gt] at a
      exact a
  have sym2 : ∀ o c, (ins F B).testBit o = true → (ins F B).testBit c = true → (nr F B o).testBit c = true → (nr F B c).testBit o = true := by
    intro o c ho hc h
    rw [← nr_sym (tb_lt (ins_lt _ _) ho) (tb_lt (ins_lt _ _) hc)]; exact h
  refine ⟨rep_eq (fun a b _ _ h => adj_sym.mp h) sym2 (fun p hp => tb_lt (fil_lt _ _) hp) (fun b hb => tb_lt (ins_lt _ _) hb) Hf Hg He, ?_⟩
  have tb : ∀ p, (fil F B &&& nt (arN (fil F B))).testBit p = true ↔ (fil F B).testBit p = true ∧ ∀ q, (fil F B).testBit q = true → ¬ adj p q := by
    intro p
    rw [Nat.testBit_and, Bool.and_eq_true, nt_tb (arN_lt _), Bool.and_eq_true, decide_eq_true_iff, Bool.not_eq_true']
    constructor
    · rintro ⟨a, b, c⟩
      refine ⟨a, fun q hq hadj => ?_⟩
      have : (arN (fil F B)).testBit p = true := by
        unfold arN
        rw [b64_tb]
        exact ⟨b, q, tb_lt (fil_lt _ _) hq, hq, adj_sym.mp hadj⟩
      rw [this] at c; cases c
    · rintro ⟨a, b⟩
      refine ⟨a, tb_lt (fil_lt _ _) a, ?_⟩
      cases hc : (arN (fil F B)).testBit p with
      | false => rfl
      | true =>
        unfold arN at hc
        rw [b64_tb] at hc
        obtain ⟨_, q, q1, q2, q3⟩ := hc
        exact absurd (adj_sym.mp q3) (b q q2)
  have nz : ∀ p, (fil F B).testBit p = true → ((∀ q, (fil F B).testBit q = true → ¬ adj p q) ↔ nr F B (f p) = 0) := by
    intro p hp
    constructor
    · intro h
      apply nat_ext
      intro c
      rw [Nat.zero_testBit]
      refine ⟨fun z => ?_, fun z => by cases z⟩
      exfalso
      have hc : (ins F B).testBit c = true := by
        unfold nr at z
        rw [bs_tb] at z
        obtain ⟨c24, i, j, hi, hj, ei, a, ej⟩ := z
        unfold ins
        rw [bs_tb]
        exact ⟨c24, j, hj, ej⟩
      obtain ⟨g1, g2⟩ := Hg c hc
      rw [← g2] at z
      exact h (g c) g1 ((He p (g c) hp g1).mpr z)
    · intro h q hq a
      have := (He p q hp hq).mp a
      rw [h, Nat.zero_testBit] at this; cases this
  show fb_ct (fil F B &&& nt (arN (fil F B))).testBit 64 = _
  refine ct_bij (f := f) (g := g) (fun p _ hp => ?_) (fun b _ hb => ?_)
  · obtain ⟨a1, a2⟩ := (tb p).mp hp
    obtain ⟨b1, b2⟩ := Hf p a1
    exact ⟨tb_lt (ins_lt _ _) b1, cd_iff.mpr ⟨b1, (nz p a1).mp a2⟩, b2⟩
  · obtain ⟨a1, a2⟩ := cd_iff.mp hb
    obtain ⟨b1, b2⟩ := Hg b a1
    refine ⟨tb_lt (fil_lt _ _) b1, (tb (g b)).mpr ⟨b1, (nz (g b) b1).mpr (by rw [b2]; exact a2)⟩, b2⟩
theorem r_door {X : Nat × (Nat → Int32)} {d : Nat} {I : Nat → Nat → Int32} {J : Nat → Nat → Int64} {a F i c : Nat} {B : Nat → Int32} (hd : 5 ≤ d) (ha : a < 6) (hc : c < 2) (hR : RWl (I 178) a F B) (hB : WB B (pop F)) (hi : i < pop F) (hb : B i ≠ -1) : ∃ I', callF X d 253 [.ref 177, .int (nI a), .int (nI i), .int (nI c)] (mk I J) = some (some (.int (if c = 0 then nI (fb_ct (fun p => cd (rep (fun z => (ins F (va_up B i (-1))).testBit z = true) (fun o c => (nr F (va_up B i (-1)) o).testBit c = true) p)) 24) else nI (fb_ct (fun b => cd ((ins F (va_up B i (-1))).testBit b = true ∧ nr F (va_up B i (-1)) b = 0)) 24))), mk I' J) ∧ FR I I' := by
  have h24 := hR.1
  obtain ⟨d, rfl⟩ : ∃ d', d = d' + 1 := ⟨d - 1, by omega⟩
  obtain ⟨B', hB'⟩ : ∃ B', B' = va_up B i (-1) := ⟨_, rfl⟩
  rw [← hB']
  have hW' : WB B' (pop F) := by rw [hB']; exact WB_del hB
  have gi := hR.2.2.2 i (by omega)
  obtain ⟨I1, hI1⟩ : ∃ I1, I1 = va_up I 178 (va_up (I 178) (668 + 24 * a + i) (-1)) := ⟨_, rfl⟩
  have hR1 : RWl (I1 178) a F B' := by
    rw [hI1, vu_eq, hB']
    obtain ⟨y1, y2, y3, y4⟩ := hR
    refine ⟨y1, ?_, fun j hj => ⟨?_, ?_⟩, fun j hj => ?_⟩
    · rw [vu_ne (by omega)]; exact y2
    · rw [vu_ne (by omega)]; exact (y3 j hj).1
    · rw [vu_ne (by omega)]; exact (y3 j hj).2
    · by_cases y : j = i
      · rw [y, vu_eq, vu_eq]
      · rw [vu_ne (by omega), vu_ne y]; exact y4 j hj
  have ly := r_lays (X := X) (d := d) (I := I1) (J := J) (N := 187) (by omega) ha hR1 hW' rfl (by decide)
  obtain ⟨y, hy⟩ : ∃ y, y = ins F B' := ⟨_, rfl⟩
  have y24 : y < 2 ^ 24 := by rw [hy]; exact ins_lt _ _
  obtain ⟨I2, hI2⟩ : ∃ I2, I2 = va_up (va_up (va_up I1 187 (gN F B' (I1 187) (pop F))) 177 (va_up (I 177) 27 (nI y))) 178 (I 178) := ⟨_, rfl⟩
  have fr2 : FR I I2 := by
    refine ⟨fun k hk => ?_, ?_, ?_, ?_, fun k hk => ?_⟩
    · rw [hI2, vu_ne (by omega), vu_ne (by omega), vu_ne (by omega), hI1, vu_ne (by omega)]
    · rw [hI2, vu_eq]
    · rw [hI2, vu_ne (by decide), vu_ne (by decide), vu_ne (by decide), hI1, vu_ne (by decide)]
    · rw [hI2, vu_ne (by decide), vu_ne (by decide), vu_ne (by decide), hI1, vu_ne (by decide)]
    · rw [hI2, vu_ne (by decide), vu_eq, vu_ne (by omega)]
  have h27 : I2 177 27 = nI y := by rw [hI2, vu_ne (by decide), vu_eq, vu_eq]
  have h7 : ∀ o, o < 24 → I2 187 o = nI (nr F B' o) := fun o ho => by
    rw [hI2, vu_ne (by decide), vu_ne (by decide), vu_eq]; exact if_pos ho
  have hnn : ∀ o c, o < 24 → (nr F B' o).testBit c = true → y.testBit o = true ∧ y.testBit c = true := by
    intro o c ho h
    unfold nr at h
    rw [bs_tb] at h
    obtain ⟨c24, i, j, hi, hj, ei, _, ej⟩ := h
    rw [hy]
    unfold ins
    rw [bs_tb, bs_tb]
    exact ⟨⟨ho, i, hi, ei⟩, c24, j, hj, ej⟩
  obtain ⟨nn, hn⟩ : ∃ nn : Nat → Nat, nn = fun o => if o < 24 then nr F B' o else 0 := ⟨_, rfl⟩
  have nn1 : ∀ o, o < 24 → nn o = nr F B' o := fun o ho => by rw [hn]; exact if_pos ho
  have hnn' : ∀ o c, (nn o).testBit c = true → y.testBit o = true ∧ y.testBit c = true := by
    intro o c h
    by_cases w : o < 24
    · rw [nn1 o w] at h; exact hnn o c w h
    · rw [hn] at h
      simp only [if_neg w, Nat.zero_testBit] at h; cases h
  obtain ⟨E, hE⟩ : ∃ E : Nat → Nat → Prop, E = fun o c => (nr F B' o).testBit c = true := ⟨_, rfl⟩
  obtain ⟨S, hS⟩ : ∃ S : Nat → Prop, S = fun z => y.testBit z = true := ⟨_, rfl⟩
  have S24 : ∀ z, S z → z < 24 := fun z hz => by rw [hS] at hz; exact tb_lt y24 hz
  have eR : ∀ p q, S p → (Rch S (fun o c => (nn o).testBit c = true) p q ↔ Rch S E p q) := by
    intro p q hp
    constructor
    · intro h
      exact h (fun q => Rch S E p q) Rch_refl (fun x z hx sx sz exz => Rch_step hx sx sz (by have exz : (nn x).testBit z = true := exz; rw [hE]; rw [nn1 x (S24 x sx)] at exz; exact exz))
    · intro h
      exact h (fun q => Rch S (fun o c => (nn o).testBit c = true) p q) Rch_refl (fun x z hx sx sz exz => Rch_step hx sx sz (by rw [hE] at exz; show (nn x).testBit z = true; rw [nn1 x (S24 x sx)]; exact exz))
  have symE : ∀ o c, S o → S c → E o c → E c o := by
    intro o c ho hc h
    rw [hE] at h ⊢
    show (nr F B' c).testBit o = true
    rw [← nr_sym (S24 o ho) (S24 c hc)]; exact h
  obtain ⟨tot, htot⟩ : ∃ tot, tot = fb_ct (fun p => cd (rep S E p)) 24 := ⟨_, rfl⟩
  have tl : tot ≤ 24 := by rw [htot]; exact fb_ct_le _ _
  obtain ⟨al, hal⟩ : ∃ al : Nat → Bool, al = fun b => cd (y.testBit b = true ∧ nr F B' b = 0) := ⟨_, rfl⟩
  rw [← hy, ← hE, ← hS, ← htot, ← hal]
  refine ⟨I2, ?_, fr2⟩
  refine callF_at (by omega) (by decide) (Nat.le_of_ble_eq_true rfl) (fun d' hd' => ?_)
  obtain rfl : d = d' := by omega
  show Ev X d 253 0 [.ref 177, .int (nI a), .int (nI i), .int (nI c), .retAddr 0, .retAddr 0, .retAddr 0, .retAddr 0, .retAddr 0, .retAddr 0, .retAddr 0, .retAddr 0] [] (mk I J) _
  have ic := r_isCellOf (X := X) (d := d) (J := J) (v := nI i) (by omega) ha hR
  rw [← hy] at ly
  have hback : va_up (va_up (I 178) (668 + 24 * a + i) (-1)) (668 + 24 * a + i) (B i) = I 178 := by rw [vu_vu, ← gi, vu_id]
  rw [hI1] at ly
  have body : Ev X d 253 5 [.ref 177, .int (nI a), .int (nI i), .int (nI c), .int (B i), .int (nI 0), .int (nI 0), .int (nI y), .int (nI 0), .retAddr 0, .retAddr 0, .retAddr 0] [] (mk I2 J) (some (.int (if c = 0 then nI tot else nI (fb_ct al 24))), mk I2 J) := by
    refine lp0 (n := 24) (P := fun b => ∀ (left pt : Nat) (u9 u10 u11 : Value), left < 2 ^ 24 → (∀ z, z < b → left.testBit z = false) → (∀ z, left.testBit z = true → S z) → (∀ x z, left.testBit x = true → S z → E x z → left.testBit z = true) → tot = pt + fb_ct (fun p => cd (rep S E p ∧ left.testBit p = true)) 24 → Ev X d 253 5 [.ref 177, .int (nI a), .int (nI i), .int (nI c), .int (B i), .int (nI pt), .int (nI (fb_ct al b)), .int (nI left), .int (nI b), u9, u10, u11] [] (mk I2 J) (some (.int (if c = 0 then nI tot else nI (fb_ct al 24))), mk I2 J)) ?_ ?_ y 0 _ _ _ y24 (fun z h => by omega) (fun z hz => by rw [hS]; exact hz) (fun x z _ hz _ => by rw [hS] at hz; exact hz) ?_
    · intro left pt u9 u10 u11 l24 g1 g2 g3 g4
      have l0 : left = 0 := nat_ext (fun z => by
        rw [Nat.zero_testBit]
        refine ⟨fun w => ?_, fun w => by cases w⟩
        rw [g1 z (tb_lt l24 w)] at w; exact w)
      have e : fb_ct (fun p => cd (rep S E p ∧ left.testBit p = true)) 24 = 0 := fb_ct_zero.mpr (fun k _ => by
        rw [cd_f, l0, Nat.zero_testBit]; rintro ⟨_, w⟩; cases w)
      rw [e, Nat.add_zero] at g4
      rw [g4, U_253_5]
      have := fb_ct_le al 24
      by_cases c0 : c = 0
      · subst c0
        simp (disch := first | omega | assumption | exact rfl) only [U_253_22, U_253_23, U_253_25, XX, QQ, WW, KK, QX, SHs, RRs, Nat.reduceAdd, Nat.reduceMul, Nat.reduceLeDiff, Nat.reduceEqDiff, List.length_cons, List.length_nil, decide_true, decide_false, Bool.true_and, Bool.and_true, Bool.false_and, Bool.and_false, false_and, and_false, Bool.false_eq_true, Bool.true_eq_false, reduceCtorEq, eq_self, if_true, if_false, true_and, and_true, not_true_eq_false, not_false_eq_true, if_pos, if_neg, z_ite_not, false_or, or_false, true_or, or_true, SWs, swk_0, swk_1]
      · rw [if_neg c0]
        simp (disch := first | omega | assumption | exact rfl) only [U_253_22, U_253_24, U_253_25, XX, QQ, WW, KK, QX, SHs, RRs, Nat.reduceAdd, Nat.reduceMul, Nat.reduceLeDiff, Nat.reduceEqDiff, List.length_cons, List.length_nil, decide_true, decide_false, Bool.true_and, Bool.and_true, Bool.false_and, Bool.and_false, false_and, and_false, Bool.false_eq_true, Bool.true_eq_false, reduceCtorEq, eq_self, if_true, if_false, true_and, and_true, not_true_eq_false, not_false_eq_true, if_pos, if_neg, z_ite_not, false_or, or_false, true_or, or_true, SWs, swk_0, swk_1]
    · intro b hb ih left pt u9 u10 u11 l24 g1 g2 g3 g4
      have e7 := h7 b hb
      have nl := nr_lt F B' b
      have cl := fb_ct_le al b
      -- alone
      have alone : ∀ r, Ev X d 253 10 [.ref 177, .int (nI a), .int (nI i), .int (nI c), .int (B i), .int (nI pt), .int (nI (fb_ct al b)), .int (nI left), .int (nI b), u9, u10, u11] [.int (nI (if al b = true then 1 else 0)), .int (nI (fb_ct al b))] (mk I2 J) r → Ev X d 253 5 [.ref 177, .int (nI a), .int (nI i), .int (nI c), .int (B i), .int (nI pt), .int (nI (fb_ct al b)), .int (nI left), .int (nI b), u9, u10, u11] [] (mk I2 J) r := by
        intro r hr
        rw [U_253_5]
        cases ht : y.testBit b with
        | false =>
          have e : al b = false := by rw [hal]; simp only [cd_f]; rintro ⟨w, _⟩; rw [ht] at w; cases w
          rw [e] at hr
          simp only [Bool.false_eq_true, if_false] at hr
          simp (disch := first | omega | assumption | exact rfl) only [U_253_6, U_253_9, XX, QQ, WW, KK, QX, SHs, RRs, Nat.reduceAdd, Nat.reduceMul, Nat.reduceLeDiff, Nat.reduceEqDiff, List.length_cons, List.length_nil, decide_true, decide_false, Bool.true_and, Bool.and_true, Bool.false_and, Bool.and_false, false_and, and_false, Bool.false_eq_true, Bool.true_eq_false, reduceCtorEq, eq_self, if_true, if_false, true_and, and_true, not_true_eq_false, not_false_eq_true, if_pos, if_neg, z_ite_not, false_or, or_false, true_or, or_true, SWs, swk_0, swk_1, h27, ht]
          exact hr
        | true =>
          by_cases w : nr F B' b = 0
          · have e : al b = true := by rw [hal]; simp only [cd_iff]; exact ⟨ht, w⟩
            rw [e] at hr
            rw [w] at e7
            simp only [if_true] at hr
            simp (disch := first | omega | assumption | exact rfl) only [U_253_6, U_253_7, U_253_8, XX, QQ, WW, KK, QX, SHs, RRs, Nat.reduceAdd, Nat.reduceMul, Nat.reduceLeDiff, Nat.reduceEqDiff, List.length_cons, List.length_nil, decide_true, decide_false, Bool.true_and, Bool.and_true, Bool.false_and, Bool.and_false, false_and, and_false, Bool.false_eq_true, Bool.true_eq_false, reduceCtorEq, eq_self, if_true, if_false, true_and, and_true, not_true_eq_false, not_false_eq_true, if_pos, if_neg, z_ite_not, false_or, or_false, true_or, or_true, SWs, swk_0, swk_1, h27, ht, e7]
            exact hr
          · have e : al b = false := by rw [hal]; simp only [cd_f]; rintro ⟨_, z⟩; exact w z
            rw [e] at hr
            simp only [Bool.false_eq_true, if_false] at hr
            simp (disch := first | omega | assumption | exact rfl) only [U_253_6, U_253_7, U_253_9, XX, QQ, WW, KK, QX, SHs, RRs, Nat.reduceAdd, Nat.reduceMul, Nat.reduceLeDiff, Nat.reduceEqDiff, List.length_cons, List.length_nil, decide_true, decide_false, Bool.true_and, Bool.and_true, Bool.false_and, Bool.and_false, false_and, and_false, Bool.false_eq_true, Bool.true_eq_false, reduceCtorEq, eq_self, if_true, if_false, true_and, and_true, not_true_eq_false, not_false_eq_true, if_pos, if_neg, z_ite_not, false_or, or_false, true_or, or_true, SWs, swk_0, swk_1, h27, ht, e7, w]
            exact hr
      apply alone
      rw [fb_ct_succ] at ih
      have a01 : (if al b = true then 1 else 0) ≤ 1 := by split <;> omega
      cases hl : left.testBit b with
      | false =>
        have q := ih left pt u9 u10 u11 l24 (fun z hz => by
          by_cases w : z = b
          · rw [w]; exact hl
          · exact g1 z (by omega)) g2 g3 g4
        simp (disch := first | omega | assumption | exact rfl) only [U_253_10, U_253_11, U_253_21, XX, QQ, WW, KK, QX, SHs, RRs, Nat.reduceAdd, Nat.reduceMul, Nat.reduceLeDiff, Nat.reduceEqDiff, List.length_cons, List.length_nil, decide_true, decide_false, Bool.true_and, Bool.and_true, Bool.false_and, Bool.and_false, false_and, and_false, Bool.false_eq_true, Bool.true_eq_false, reduceCtorEq, eq_self, if_true, if_false, true_and, and_true, not_true_eq_false, not_false_eq_true, if_pos, if_neg, z_ite_not, false_or, or_false, true_or, or_true, SWs, swk_0, swk_1, hl]
        exact q
      | true =>
        have sb := g2 b hl
        have hby : y.testBit b = true := by rw [hS] at sb; exact sb
        obtain ⟨H, hH⟩ : ∃ H, H = bs (fun q => Rch (fun z => y.testBit z = true) (fun o c => (nn o).testBit c = true) b q) := ⟨_, rfl⟩
        have H24 : H < 2 ^ 24 := by rw [hH]; exact bs_lt _
        have r' : ∀ z, (left &&& nt32 H).testBit z = true ↔ left.testBit z = true ∧ ¬ Rch S E b z := by
          intro z
          rw [Nat.testBit_and, Bool.and_eq_true]
          unfold nt32
          rw [Nat.testBit_two_pow_sub_succ (by omega) z, Bool.and_eq_true, decide_eq_true_iff, Bool.not_eq_true']
          have hz : H.testBit z = true ↔ z < 24 ∧ Rch S E b z := by
            rw [hH, bs_tb, ← hS, eR b z sb]
          constructor
          · rintro ⟨w1, w2, w3⟩
            refine ⟨w1, fun w4 => ?_⟩
            rw [hz.mpr ⟨tb_lt l24 w1, w4⟩] at w3; cases w3
          · rintro ⟨w1, w2⟩
            have := tb_lt l24 w1
            refine ⟨w1, by omega, ?_⟩
            cases hc : H.testBit z with
            | false => rfl
            | true => exact absurd (hz.mp hc).2 w2
        obtain ⟨t1, t2, t3⟩ := rep_take (S := S) (e := E) (N := 24) (R := fun z => left.testBit z = true) (R' := fun z => (left &&& nt32 H).testBit z = true) symE hb g2 g3 hl (fun z hz w => by rw [g1 z hz] at w; cases w) r'
        have la : left &&& nt32 H < 2 ^ 24 := and_lt24 l24
        have q := ih (left &&& nt32 H) (pt + 1) (.int (nI H)) 
        have cls := r_close (X := X) (d := d) (J := J) (I := I2) (y := y) (b := b) (nn := nn) hb (by omega) y24 hby (fun o ho => by rw [nn1 o ho]; exact h7 o ho) hnn' (u1 := .int (nI a)) (u2 := .int (nI i)) (u3 := .int (nI c)) (u4 := .int (B i)) (u5 := .int (nI (pt + 1))) (u6 := .int (nI (fb_ct al b + (if al b = true then 1 else 0)))) (u7 := .int (nI left)) (r := (some (.int (if c = 0 then nI tot else nI (fb_ct al 24))), mk I2 J)) (by
          intro u10 u11
          rw [← hH]
          have q := q u10 u11 la (fun z hz => by
            cases hc : (left &&& nt32 H).testBit z with
            | false => rfl
            | true =>
              obtain ⟨w1, w2⟩ := (r' z).mp hc
              by_cases w : z = b
              · rw [w] at w2; exact absurd Rch_refl w2
              · rw [g1 z (by omega)] at w1; cases w1) t2 t3 (by omega)
          have ni := i_not (show H < 2 ^ 32 by omega)
          simp (disch := first | omega | assumption | exact rfl) only [U_253_20, U_253_21, XX, QQ, WW, KK, QX, SHs, RRs, Nat.reduceAdd, Nat.reduceMul, Nat.reduceLeDiff, Nat.reduceEqDiff, List.length_cons, List.length_nil, decide_true, decide_false, Bool.true_and, Bool.and_true, Bool.false_and, Bool.and_false, false_and, and_false, Bool.false_eq_true, Bool.true_eq_false, reduceCtorEq, eq_self, if_true, if_false, true_and, and_true, not_true_eq_false, not_false_eq_true, if_pos, if_neg, z_ite_not, false_or, or_false, true_or, or_true, SWs, swk_0, swk_1, ni, fa_and]
          exact q) u11
        simp (disch := first | omega | assumption | exact rfl) only [U_253_10, U_253_12, XX, QQ, WW, KK, QX, SHs, RRs, Nat.reduceAdd, Nat.reduceMul, Nat.reduceLeDiff, Nat.reduceEqDiff, List.length_cons, List.length_nil, decide_true, decide_false, Bool.true_and, Bool.and_true, Bool.false_and, Bool.and_false, false_and, and_false, Bool.false_eq_true, Bool.true_eq_false, reduceCtorEq, eq_self, if_true, if_false, true_and, and_true, not_true_eq_false, not_false_eq_true, if_pos, if_neg, z_ite_not, false_or, or_false, true_or, or_true, SWs, swk_0, swk_1, hl]
        exact cls
    · rw [Nat.zero_add, htot]
      refine fb_ct_cong (fun k _ => ?_)
      rw [Bool.eq_iff_iff, cd_iff, cd_iff]
      constructor
      · intro w; exact ⟨w, by have := w.1; rw [hS] at this; exact this⟩
      · intro w; exact w.1
  rw [hI2] at body
  rw [hI1] at body
  rw [hI2, hI1]
  simp (disch := first | omega | assumption | exact rfl) only [U_253_0, U_253_1, U_253_2, U_253_4, XX, QQ, WW, KK, QX, SHs, RRs, Nat.reduceAdd, Nat.reduceMul, Nat.reduceLeDiff, Nat.reduceEqDiff, List.length_cons, List.length_nil, decide_true, decide_false, Bool.true_and, Bool.and_true, Bool.false_and, Bool.and_false, false_and, and_false, Bool.false_eq_true, Bool.true_eq_false, reduceCtorEq, eq_self, if_true, if_false, true_and, and_true, not_true_eq_false, not_false_eq_true, if_pos, if_neg, z_ite_not, false_or, or_false, true_or, or_true, SWs, swk_0, swk_1, ic, r_brick, gi, hb, r_isIn, ly, hback]
  exact body
