/-! ===== the reference's matching is the greatest ===== -/
def evC (F u : Nat) : Prop := (pl F u % 8 + pl F u / 8) % 2 = 0
def KI (F i : Nat) (cm : Nat → Nat) (S : Nat → Prop) : Prop := MtC (pop F) (EF F) cm ∧ (∀ j, j < pop F → ∀ u, cm j = u + 1 → u < i ∧ evC F u) ∧ (∀ j, j < pop F → S j → cm j ≠ 0) ∧ (∀ u, u < i → u < pop F → evC F u → ((∀ j, j < pop F → cm j ≠ u + 1) ∨ ∃ j, j < pop F ∧ S j ∧ cm j = u + 1) → ∀ k, k < pop F → EF F u k → S k)
def ctC (F : Nat) (cm : Nat → Nat) : Nat := fb_ct (fun j => decide (cm j ≠ 0)) (pop F)
theorem ev_adj {F u j : Nat} (h : EF F u j) : evC F u ↔ ¬ evC F j := by
  unfold EF adj at h
  unfold evC
  omega
theorem KI_cl {F i : Nat} {cm : Nat → Nat} {S : Nat → Prop} (h : KI F i cm S) : ClS (pop F) (EF F) cm S := fun j hj sj => by
  obtain ⟨h1, h2, h3, h4⟩ := h
  have c := h3 j hj sj
  obtain ⟨u, eu⟩ : ∃ u, cm j = u + 1 := ⟨cm j - 1, by omega⟩
  obtain ⟨x1, x2⟩ := h2 j hj u eu
  exact ⟨u, eu, h4 u x1 (h1.1 j hj u eu).1 x2 (.inr ⟨j, hj, sj, eu⟩)⟩
theorem KI_odd {F i : Nat} {cm : Nat → Nat} {S : Nat → Prop} (h : KI F i cm S) (hi : ¬ evC F i) : KI F (i + 1) cm S := by
  obtain ⟨h1, h2, h3, h4⟩ := h
  refine ⟨h1, fun j hj u e => ?_, h3, fun u hu hu2 ev => ?_⟩
  · obtain ⟨a, b⟩ := h2 j hj u e
    exact ⟨by omega, b⟩
  · have : u ≠ i := fun z => by subst z; exact hi ev
    exact h4 u (by omega) hu2 ev
theorem KI_no {F i : Nat} {cm : Nat → Nat} {S : Nat → Prop} {sn' : Nat → Bool} (h : KI F i cm S) (f : FMf (pop F) (EF F) i cm (fun _ => false) sn') : KI F (i + 1) cm (fun j => S j ∨ sn' j = true) := by
  obtain ⟨h1, h2, h3, h4⟩ := h
  obtain ⟨f1, f2, f3⟩ := f
  refine ⟨h1, fun j hj u e => ?_, fun j hj sj => ?_, fun u hu hu2 ev q k hk e => ?_⟩
  · obtain ⟨a, b⟩ := h2 j hj u e
    exact ⟨by omega, b⟩
  · rcases sj with sj | sj
    · exact h3 j hj sj
    · obtain ⟨u, e, _⟩ := f3 j hj sj rfl
      omega
  · by_cases z : u = i
    · subst z; exact .inr (f2 k hk e)
    · rcases q with q | ⟨j, hj, sj | sj, ej⟩
      · exact .inl (h4 u (by omega) hu2 ev (.inl q) k hk e)
      · exact .inl (h4 u (by omega) hu2 ev (.inr ⟨j, hj, sj, ej⟩) k hk e)
      · obtain ⟨u', e1, e2⟩ := f3 j hj sj rfl
        have : u' = u := by omega
        subst this
        exact .inr (e2 k hk e)
theorem KI_yes {F i : Nat} {cm cm' : Nat → Nat} {S : Nat → Prop} (h : KI F i cm S) (hi : evC F i) (f : FMt (pop F) (EF F) i cm (fun _ => false) cm') : KI F (i + 1) cm' S ∧ ctC F cm' = ctC F cm + 1 := by
  have cl := KI_cl h
  obtain ⟨h1, h2, h3, h4⟩ := h
  obtain ⟨t1, t2, t3, ⟨j0, t4a, t4b, t4c⟩, t5, t6, t7, t8⟩ := f
  obtain ⟨s1, _⟩ := t8 S cl
  refine ⟨⟨⟨t1, fun j k hj hk e ne => ?_⟩, fun j hj u e => ?_, fun j hj sj => ?_, fun u hu hu2 ev q k hk e => ?_⟩, t5⟩
  · rcases t3 j k hj hk e ne with q | ⟨_, q | q⟩
    · exact q
    · cases q
    · cases q
  · by_cases z : u = i
    · subst z; exact ⟨by omega, hi⟩
    · obtain ⟨k, hk, ek⟩ := t7 u z ⟨j, hj, e⟩
      obtain ⟨a, b⟩ := h2 k hk u ek
      exact ⟨by omega, b⟩
  · rw [s1 j hj sj]; exact h3 j hj sj
  · rcases q with q | ⟨j, hj, sj, ej⟩
    · have z : u ≠ i := fun z => by subst z; exact q j0 t4a t4c
      refine h4 u (by omega) hu2 ev (.inl (fun j hj ej => ?_)) k hk e
      obtain ⟨k', a, b⟩ := t6 u z ⟨j, hj, ej⟩
      exact q k' a b
    · rw [s1 j hj sj] at ej
      obtain ⟨a, _⟩ := h2 j hj u ej
      exact h4 u a hu2 ev (.inr ⟨j, hj, sj, ej⟩) k hk e
theorem KI_0 {F : Nat} : KI F 0 (fun _ => 0) (fun _ => False) := ⟨⟨fun _ _ _ e => (Nat.succ_ne_zero _ e.symm).elim, fun _ _ _ _ _ ne => absurd rfl ne⟩, fun _ _ _ e => (Nat.succ_ne_zero _ e.symm).elim, fun _ _ h => h.elim, fun _ h => by omega⟩
theorem ct_pF {F : Nat} {Q : Nat → Bool} : fb_ct (fun k => F.testBit k && Q k) 64 = fb_ct (fun i => Q (pl F i)) (pop F) := ct_kth (p := F.testBit) (Q := Q) (N := 64) 64 (Nat.le_refl _)
noncomputable def mtLf (F : Nat) (cm : Nat → Nat) (i : Nat) : Nat := fa_first (fun j => decide (cm j = i + 1)) (pop F)
theorem mtLf_is {F i j : Nat} {cm : Nat → Nat} (hC : MtC (pop F) (EF F) cm) (hj : j < pop F) (e : cm j = i + 1) : mtLf F cm i = j := by
  have hl := fa_first_le (fun j => decide (cm j = i + 1)) (pop F)
  have lt : mtLf F cm i < pop F := by
    rcases Nat.lt_or_ge (mtLf F cm i) (pop F) with q | q
    · exact q
    · have := fa_first_no (fun j => decide (cm j = i + 1)) (pop F) j (by unfold mtLf at q; omega)
      exact absurd e (of_decide_eq_false this)
  have y := fa_first_yes (fun j => decide (cm j = i + 1)) (pop F) lt
  have y : cm (mtLf F cm i) = i + 1 := of_decide_eq_true y
  exact hC.2 _ j lt hj (by rw [y, e]) (by rw [y]; omega)
theorem k_cov {F : Nat} {cm : Nat → Nat} {S : Nat → Prop} (hF : F < 2 ^ 64) (h24 : pop F ≤ 24) (h : KI F (pop F) cm S) : mo 24 F ≤ ctC F cm := by
  obtain ⟨h1, h2, h3, h4⟩ := h
  obtain ⟨Q, eQ⟩ : ∃ Q : Nat → Prop, Q = fun i => (¬ evC F i ∧ S i) ∨ (evC F i ∧ ∃ j, j < pop F ∧ cm j = i + 1 ∧ ¬ S j) := ⟨_, rfl⟩
  have c := mo_cov (C := fun a => cd (Q (num F a))) 24 F hF h24 (by decide) (fun a b ha hb ad => by
    have a64 := tb_lt hF ha
    have b64 := tb_lt hF hb
    have na := num_lt a64 ha
    have nb := num_lt b64 hb
    have pa := pl_num a64 ha
    have pb := pl_num b64 hb
    have key : ∀ i j, i < pop F → j < pop F → EF F i j → evC F i → Q i ∨ Q j := fun i j hi hj e ev => by
      rw [eQ]
      by_cases w : ∃ k, k < pop F ∧ cm k = i + 1 ∧ ¬ S k
      · exact .inl (.inr ⟨ev, w⟩)
      · right; left
        refine ⟨(ev_adj e).mp ev, h4 i hi hi ev ?_ j hj e⟩
        by_cases y : ∃ k, k < pop F ∧ cm k = i + 1
        · obtain ⟨k, hk, ek⟩ := y
          exact .inr ⟨k, hk, Classical.byContradiction (fun q => w ⟨k, hk, ek, q⟩), ek⟩
        · exact .inl (fun k hk ek => y ⟨k, hk, ek⟩)
    have e1 : EF F (num F a) (num F b) := by unfold EF; rw [pa, pb]; exact ad
    have e2 : EF F (num F b) (num F a) := by unfold EF; rw [pa, pb]; exact adj_sym.mp ad
    by_cases ev : evC F (num F a)
    · rcases key _ _ na nb e1 ev with q | q
      · exact .inl (cd_iff.mpr q)
      · exact .inr (cd_iff.mpr q)
    · have ev2 : evC F (num F b) := (ev_adj e2).mpr ev
      rcases key _ _ nb na e2 ev2 with q | q
      · exact .inr (cd_iff.mpr q)
      · exact .inl (cd_iff.mpr q))
  refine Nat.le_trans c ?_
  unfold ccR
  rw [ct_pF (Q := fun a => cd (Q (num F a)))]
  unfold ctC
  refine ct_inj (f := fun i => if cd (evC F i) = true then mtLf F cm i else i) (fun i hi hq => ?_) (fun i i' hi hi' hq hq' e => ?_)
  · have hq : Q (num F (pl F i)) := cd_iff.mp hq
    rw [(pl_spec hi).2.2, eQ] at hq
    rcases hq with ⟨a, b⟩ | ⟨a, j, hj, ej, _⟩
    · rw [if_neg (by rw [cd_iff]; exact a)]
      exact ⟨hi, decide_eq_true (h3 i hi b)⟩
    · rw [if_pos (cd_iff.mpr a), mtLf_is h1 hj ej]
      exact ⟨hj, decide_eq_true (by omega)⟩
  · have hq : Q (num F (pl F i)) := cd_iff.mp hq
    have hq' : Q (num F (pl F i')) := cd_iff.mp hq'
    rw [(pl_spec hi).2.2, eQ] at hq
    rw [(pl_spec hi').2.2, eQ] at hq'
    rcases hq with ⟨a, b⟩ | ⟨a, j, hj, ej, nj⟩
    · rcases hq' with ⟨a', b'⟩ | ⟨a', j', hj', ej', nj'⟩
      · rw [if_neg (by rw [cd_iff]; exact a), if_neg (by rw [cd_iff]; exact a')] at e; exact e
      · rw [if_neg (by rw [cd_iff]; exact a), if_pos (cd_iff.mpr a'), mtLf_is h1 hj' ej'] at e
        subst e; exact absurd b nj'
    · rcases hq' with ⟨a', b'⟩ | ⟨a', j', hj', ej', nj'⟩
      · rw [if_pos (cd_iff.mpr a), if_neg (by rw [cd_iff]; exact a'), mtLf_is h1 hj ej] at e
        subst e; exact absurd b' nj
      · rw [if_pos (cd_iff.mpr a), if_pos (cd_iff.mpr a'), mtLf_is h1 hj ej, mtLf_is h1 hj' ej'] at e
        subst e
        omega
theorem k_mat {F : Nat} {cm : Nat → Nat} {S : Nat → Prop} (hF : F < 2 ^ 64) (h24 : pop F ≤ 24) (h : KI F (pop F) cm S) : ctC F cm ≤ mo 24 F := by
  obtain ⟨h1, h2, h3, h4⟩ := h
  have odd : ∀ j, j < pop F → cm j ≠ 0 → ¬ evC F j := fun j hj ne => by
    obtain ⟨u, eu⟩ : ∃ u, cm j = u + 1 := ⟨cm j - 1, by omega⟩
    exact (ev_adj (h1.1 j hj u eu).2).mp (h2 j hj u eu).2
  obtain ⟨mu, emu⟩ : ∃ mu : Nat → Nat, mu = fun a => if F.testBit a = true then (if cm (num F a) ≠ 0 then pl F (cm (num F a) - 1) else if mtLf F cm (num F a) < pop F then pl F (mtLf F cm (num F a)) else a) else a := ⟨_, rfl⟩
  have muR : ∀ j u, j < pop F → cm j = u + 1 → mu (pl F j) = pl F u := fun j u hj e => by
    rw [emu]
    dsimp only
    rw [if_pos (pl_spec hj).2.1, (pl_spec hj).2.2, if_pos (by omega), e, Nat.add_sub_cancel]
  have muL : ∀ j u, j < pop F → cm j = u + 1 → mu (pl F u) = pl F j := fun j u hj e => by
    have hu := (h1.1 j hj u e).1
    have z : cm u = 0 := Classical.byContradiction (fun q => odd u hu q (h2 j hj u e).2)
    rw [emu]
    dsimp only
    rw [if_pos (pl_spec hu).2.1, (pl_spec hu).2.2, if_neg (fun q => q z), mtLf_is h1 hj e, if_pos hj]
  have cas : ∀ a, mu a = a ∨ ∃ j u, j < pop F ∧ cm j = u + 1 ∧ (a = pl F j ∨ a = pl F u) := fun a => by
    by_cases t : F.testBit a = true
    · have a64 := tb_lt hF t
      by_cases z : cm (num F a) = 0
      · by_cases y : mtLf F cm (num F a) < pop F
        · right
          have e := fa_first_yes (fun j => decide (cm j = num F a + 1)) (pop F) y
          have e : cm (mtLf F cm (num F a)) = num F a + 1 := of_decide_eq_true e
          exact ⟨_, _, y, e, .inr (pl_num a64 t).symm⟩
        · left
          rw [emu]; dsimp only
          rw [if_pos t, if_neg (fun q => q z), if_neg y]
      · right
        exact ⟨num F a, cm (num F a) - 1, num_lt a64 t, by omega, .inl (pl_num a64 t).symm⟩
    · left
      rw [emu]; dsimp only
      rw [if_neg t]
  have hM : MU F mu := by
    refine ⟨fun a => ?_, fun a ha => ?_⟩
    · rcases cas a with q | ⟨j, u, hj, e, q | q⟩
      · rw [q, q]
      · rw [q, muR j u hj e, muL j u hj e]
      · rw [q, muL j u hj e, muR j u hj e]
    · rcases cas a with q | ⟨j, u, hj, e, q | q⟩
      · exact absurd q ha
      · have := h1.1 j hj u e
        rw [q, muR j u hj e]
        exact ⟨(pl_spec hj).2.1, adj_sym.mp this.2⟩
      · have := h1.1 j hj u e
        rw [q, muL j u hj e]
        exact ⟨(pl_spec this.1).2.1, this.2⟩
  have up := mo_mat 24 F mu hF h24 (by decide) hM
  have A : ctC F cm ≤ fb_ct (fun a => F.testBit a && cd (cm (num F a) ≠ 0)) 64 := by
    unfold ctC
    refine ct_inj (f := fun j => pl F j) (fun j hj hq => ?_) (fun j k hj hk _ _ e => pl_inj hj hk e)
    have hq : cm j ≠ 0 := of_decide_eq_true hq
    refine ⟨(pl_spec hj).1, ?_⟩
    rw [(pl_spec hj).2.1, (pl_spec hj).2.2, cd_iff.mpr hq]; rfl
  have B : ctC F cm ≤ fb_ct (fun a => F.testBit a && cd (∃ j, j < pop F ∧ cm j = num F a + 1)) 64 := by
    unfold ctC
    refine ct_inj (f := fun j => pl F (cm j - 1)) (fun j hj hq => ?_) (fun j k hj hk hq hq' e => ?_)
    · have hq : cm j ≠ 0 := of_decide_eq_true hq
      obtain ⟨u, eu⟩ : ∃ u, cm j = u + 1 := ⟨cm j - 1, by omega⟩
      have hu := (h1.1 j hj u eu).1
      rw [eu, Nat.add_sub_cancel]
      refine ⟨(pl_spec hu).1, ?_⟩
      rw [(pl_spec hu).2.1, (pl_spec hu).2.2, cd_iff.mpr ⟨j, hj, eu⟩]; rfl
    · have hq : cm j ≠ 0 := of_decide_eq_true hq
      have hq' : cm k ≠ 0 := of_decide_eq_true hq'
      have a1 := (h1.1 j hj (cm j - 1) (by omega)).1
      have a2 := (h1.1 k hk (cm k - 1) (by omega)).1
      have := pl_inj a1 a2 e
      exact h1.2 j k hj hk (by omega) hq
  have dj := fb_ct_or (p := fun a => F.testBit a && cd (cm (num F a) ≠ 0)) (q := fun a => F.testBit a && cd (∃ j, j < pop F ∧ cm j = num F a + 1)) (n := 64) (fun a _ w => by
    obtain ⟨w1, w2⟩ := w
    rw [Bool.and_eq_true, cd_iff] at w1 w2
    obtain ⟨j, hj, ej⟩ := w2.2
    have a64 := tb_lt hF w1.1
    exact odd (num F a) (num_lt a64 w1.1) w1.2 (h2 j hj _ ej).2)
  have sub : fb_ct (fun a => (F.testBit a && cd (cm (num F a) ≠ 0)) || (F.testBit a && cd (∃ j, j < pop F ∧ cm j = num F a + 1))) 64 ≤ ctM mu := fb_ct_sub (fun a _ w => by
    have ne : ∀ j u, j < pop F → cm j = u + 1 → pl F u ≠ pl F j := fun j u hj e q => by
      have := (h1.1 j hj u e).2
      unfold EF at this
      rw [q] at this
      exact adj_irr this
    rw [Bool.or_eq_true, Bool.and_eq_true, Bool.and_eq_true, cd_iff, cd_iff] at w
    rcases w with ⟨w1, w2⟩ | ⟨w1, j, hj, ej⟩
    · have a64 := tb_lt hF w1
      have pa := pl_num a64 w1
      have m := muR (num F a) (cm (num F a) - 1) (num_lt a64 w1) (by omega)
      rw [pa] at m
      have n := ne (num F a) (cm (num F a) - 1) (num_lt a64 w1) (by omega)
      rw [pa] at n
      exact decide_eq_true (by rw [m]; exact n)
    · have a64 := tb_lt hF w1
      have pa := pl_num a64 w1
      have m := muL j (num F a) hj ej
      rw [pa] at m
      have n := ne j (num F a) hj ej
      rw [pa] at n
      exact decide_eq_true (by rw [m]; exact fun q => n q.symm))
  omega
