/-! ===== the most couples: no cover is less, no matching is more ===== -/
theorem pw_inj {a b : Nat} (h : 2 ^ a = 2 ^ b) : a = b := by
  have e := congrArg (fun x => Nat.testBit x a) h
  skip
  rw [Nat.testBit_two_pow, Nat.testBit_two_pow, decide_eq_true rfl] at e
  exact (of_decide_eq_true e.symm).symm
theorem near_p {R p : Nat} (hR : R < 2 ^ 64) (hp : p < 64) : (R &&& rtN (2 ^ p) = 0 ∧ ¬ (p % 8 < 7 ∧ R.testBit (p + 1) = true)) ∨ (R &&& rtN (2 ^ p) = 2 ^ (p + 1) ∧ p % 8 < 7 ∧ R.testBit (p + 1) = true) := by
  rcases and_c (R := R) (rt_c hp) with z | ⟨q, z1, z2, z3⟩
  · left
    refine ⟨z, fun w => ?_⟩
    rw [rtN_pw hp, if_pos w.1] at z
    exact absurd w.2 (by rw [(fb_bit_nat R (p + 1)).mp z]; decide)
  · right
    rw [rtN_pw hp] at z2
    split at z2
    · rename_i w
      have e : p + 1 = q := pw_inj z2
      subst e
      exact ⟨z1, w, z3⟩
    · exact absurd z2.symm (Nat.ne_of_gt (Nat.two_pow_pos q))
theorem near_a {R p : Nat} (hR : R < 2 ^ 64) (hp : p < 64) : (R &&& upN (2 ^ p) 8 = 0 ∧ ¬ R.testBit (p + 8) = true) ∨ (R &&& upN (2 ^ p) 8 = 2 ^ (p + 8) ∧ R.testBit (p + 8) = true) := by
  rcases and_c (R := R) (up_c (p := p) (k := 8)) with z | ⟨q, z1, z2, z3⟩
  · left
    refine ⟨z, fun w => ?_⟩
    rw [upN_pw, if_pos (tb_lt hR w)] at z
    exact absurd w (by rw [(fb_bit_nat R (p + 8)).mp z]; decide)
  · right
    rw [upN_pw] at z2
    split at z2
    · have e : p + 8 = q := pw_inj z2
      subst e
      exact ⟨z1, z3⟩
    · exact absurd z2.symm (Nat.ne_of_gt (Nat.two_pow_pos q))
theorem mw_r {f : Nat → Nat} {R p : Nat} (hR : R < 2 ^ 64) (hp : p < 64) : (mw f R (2 ^ p) (rtN (2 ^ p)) = 0 ∧ ¬ (p % 8 < 7 ∧ R.testBit (p + 1) = true)) ∨ (mw f R (2 ^ p) (rtN (2 ^ p)) = 1 + f (rmS (rmS R (2 ^ p)) (2 ^ (p + 1))) ∧ p % 8 < 7 ∧ R.testBit (p + 1) = true) := by
  unfold mw
  rcases near_p hR hp with ⟨a1, a2⟩ | ⟨a1, a2, a3⟩
  · left; exact ⟨if_pos a1, a2⟩
  · right
    refine ⟨?_, a2, a3⟩
    rw [if_neg (by rw [a1]; exact Nat.ne_of_gt (Nat.two_pow_pos _)), rtN_pw hp, if_pos a2]
theorem mw_a {f : Nat → Nat} {R p : Nat} (hR : R < 2 ^ 64) (hp : p < 64) : (mw f R (2 ^ p) (upN (2 ^ p) 8) = 0 ∧ ¬ R.testBit (p + 8) = true) ∨ (mw f R (2 ^ p) (upN (2 ^ p) 8) = 1 + f (rmS (rmS R (2 ^ p)) (2 ^ (p + 8))) ∧ R.testBit (p + 8) = true) := by
  unfold mw
  rcases near_a hR hp with ⟨a1, a2⟩ | ⟨a1, a2⟩
  · left; exact ⟨if_pos a1, a2⟩
  · right
    refine ⟨?_, a2⟩
    rw [if_neg (by rw [a1]; exact Nat.ne_of_gt (Nat.two_pow_pos _)), upN_pw, if_pos (tb_lt hR a2)]
/-- what the most couples come to at the least place that touches another one -/
theorem mo_c {A R p : Nat} (hA : A < 2 ^ 64) (h24 : pop A ≤ 24) (eR : R = trm A) (h0 : R ≠ 0) (ep : p = lbp R) : ∃ q, ((q = p + 1 ∧ p % 8 < 7) ∨ q = p + 8) ∧ R.testBit q = true ∧ mo 24 A = 1 + mo 24 (rmS (rmS R (2 ^ p)) (2 ^ q)) ∧ ∀ q', ((q' = p + 1 ∧ p % 8 < 7) ∨ q' = p + 8) → R.testBit q' = true → 1 + mo 24 (rmS (rmS R (2 ^ p)) (2 ^ q')) ≤ mo 24 A := by
  have hR : R < 2 ^ 64 := by rw [eR]; exact trm_lt hA
  obtain ⟨h1, h2, _, h4⟩ := low_p hR h0
  have e := mo_e hA h24 (by rw [← eR]; exact h0)
  rw [← eR] at e
  unfold moB mx2 at e
  rw [← ep] at h1 h2 h4 e
  have nb : (p % 8 < 7 ∧ R.testBit (p + 1) = true) ∨ R.testBit (p + 8) = true := by
    rw [eR] at h1
    obtain ⟨a1, s, s64, a2, a3⟩ := trm_el h1
    have a4 : R.testBit s = true := by rw [eR]; exact trm_in hA a2 a1 (adj_sym.mp a3)
    have ge : ¬ s < p := fun w => by rw [h4 _ w] at a4; cases a4
    unfold adj at a3
    rcases a3 with ⟨b1, b2⟩ | ⟨b1, b2⟩ | b1 | b1
    · omega
    · left; rw [b1] at a4; exact ⟨b2, a4⟩
    · omega
    · right; rw [b1] at a4; exact a4
  rcases mw_r (f := mo 24) hR h2 with ⟨a1, a2⟩ | ⟨a1, a2, a3⟩
  · rcases mw_a (f := mo 24) hR h2 with ⟨b1, b2⟩ | ⟨b1, b2⟩
    · exact absurd nb (fun w => w.elim a2 b2)
    · rw [a1, b1, if_pos (by omega)] at e
      refine ⟨p + 8, .inr rfl, b2, e, fun q' hq hq2 => ?_⟩
      rcases hq with ⟨x, y⟩ | x
      · subst x; exact absurd ⟨y, hq2⟩ a2
      · subst x; omega
  · rcases mw_a (f := mo 24) hR h2 with ⟨b1, b2⟩ | ⟨b1, b2⟩
    · rw [a1, b1, if_neg (by omega)] at e
      refine ⟨p + 1, .inl ⟨rfl, a2⟩, a3, e, fun q' hq hq2 => ?_⟩
      rcases hq with ⟨x, y⟩ | x
      · subst x; omega
      · subst x; exact absurd hq2 b2
    · rw [a1, b1] at e
      by_cases g : 1 + mo 24 (rmS (rmS R (2 ^ p)) (2 ^ (p + 1))) < 1 + mo 24 (rmS (rmS R (2 ^ p)) (2 ^ (p + 8)))
      · rw [if_pos g] at e
        refine ⟨p + 8, .inr rfl, b2, e, fun q' hq hq2 => ?_⟩
        rcases hq with ⟨x, y⟩ | x
        · subst x; omega
        · subst x; omega
      · rw [if_neg g] at e
        refine ⟨p + 1, .inl ⟨rfl, a2⟩, a3, e, fun q' hq hq2 => ?_⟩
        rcases hq with ⟨x, y⟩ | x
        · subst x; omega
        · subst x; omega
def ccR (C : Nat → Bool) (R : Nat) : Nat := fb_ct (fun k => R.testBit k && C k) 64
theorem ccR_rm {C : Nat → Bool} {R p : Nat} (hR : R < 2 ^ 64) (hp : R.testBit p = true) : ccR C (rmS R (2 ^ p)) + (if C p = true then 1 else 0) = ccR C R := by
  have p64 := tb_lt hR hp
  have e : (fun k => (rmS R (2 ^ p)).testBit k && C k) = fun k => if k = p then false else (fun k => R.testBit k && C k) k := by
    funext k
    by_cases z : k = p
    · subst z
      rw [if_pos rfl]
      have : (rmS R (2 ^ k)).testBit k = false := by rw [← Bool.not_eq_true, rmS_tb hR, Nat.testBit_two_pow]; simp
      rw [this]; rfl
    · rw [if_neg z]
      have : (rmS R (2 ^ p)).testBit k = R.testBit k := by
        rw [Bool.eq_iff_iff, rmS_tb hR, Nat.testBit_two_pow]
        exact ⟨fun q => q.1, fun q => ⟨q, decide_eq_false (fun e => z e.symm)⟩⟩
      rw [this]
  have u := fb_ct_upd (fun k => R.testBit k && C k) false p64
  unfold ccR
  rw [e]
  rw [hp, Bool.true_and] at u
  simpa using u
theorem adj_q {p q : Nat} (h : (q = p + 1 ∧ p % 8 < 7) ∨ q = p + 8) : adj p q ∧ q ≠ p := by
  unfold adj
  rcases h with ⟨a, b⟩ | a
  · exact ⟨.inl ⟨a, b⟩, by omega⟩
  · exact ⟨.inr (.inr (.inl a)), by omega⟩
theorem rm_tb2 {R p q : Nat} (hR : R < 2 ^ 64) (hq : R.testBit q = true) (ne : q ≠ p) : (rmS R (2 ^ p)).testBit q = true := (rmS_tb hR).mpr ⟨hq, by rw [Nat.testBit_two_pow]; exact decide_eq_false (fun t => ne t.symm)⟩
theorem mo_cov {C : Nat → Bool} : ∀ n A, A < 2 ^ 64 → pop A ≤ n → n ≤ 24 → (∀ a b, A.testBit a = true → A.testBit b = true → adj a b → C a = true ∨ C b = true) → mo 24 A ≤ ccR C A
  | 0, A, hA, hn, _, _ => by
    have z := (pop_z hA).mp (by omega)
    subst z
    rw [mo_0 (Nat.zero_and _)]; exact Nat.zero_le _
  | n + 1, A, hA, hn, h24, hC => by
    by_cases z : trm A = 0
    · rw [mo_0 z]; exact Nat.zero_le _
    · obtain ⟨R, eR⟩ : ∃ R, R = trm A := ⟨_, rfl⟩
      have hR : R < 2 ^ 64 := by rw [eR]; exact trm_lt hA
      have tp : pop R ≤ pop A := by rw [eR]; exact trm_pop
      have sb : ∀ k, R.testBit k = true → A.testBit k = true := fun k h => by rw [eR] at h; exact (trm_el h).1
      have cc : ccR C R ≤ ccR C A := fb_ct_sub (fun k _ h => by
        rw [Bool.and_eq_true] at h ⊢
        exact ⟨sb k h.1, h.2⟩)
      rw [← eR] at z
      obtain ⟨h1, h2, _, _⟩ := low_p hR z
      obtain ⟨p, ep⟩ : ∃ p, p = lbp R := ⟨_, rfl⟩
      rw [← ep] at h1 h2
      have c1 := ccR_rm (C := C) hR h1
      have p1 := pop_rm1 hR h1
      obtain ⟨q, hq, hq2, e, _⟩ := mo_c hA (by omega) eR z ep
      obtain ⟨aq, ne⟩ := adj_q hq
      have hq' := rm_tb2 hR hq2 ne
      have c2 := ccR_rm (C := C) (R := rmS R (2 ^ p)) rmS_lt hq'
      have p2 := pop_rm2 (R := R) (P := 2 ^ p) (S := 2 ^ q)
      have ih := mo_cov (C := C) n (rmS (rmS R (2 ^ p)) (2 ^ q)) rmS_lt (by omega) (by omega) (fun a b x y w => hC a b (sb _ ((rmS_tb hR).mp ((rmS_tb rmS_lt).mp x).1).1) (sb _ ((rmS_tb hR).mp ((rmS_tb rmS_lt).mp y).1).1) w)
      have := hC p q (sb _ h1) (sb _ hq2) aq
      rcases this with w | w
      · rw [if_pos w] at c1; omega
      · rw [if_pos w] at c2; omega
/-- a matching: who lies with whom; who lies alone lies with itself -/
def MU (R : Nat) (mu : Nat → Nat) : Prop := (∀ a, mu (mu a) = a) ∧ ∀ a, mu a ≠ a → R.testBit a = true ∧ adj a (mu a)
def umT (mu : Nat → Nat) (q : Nat) : Nat → Nat := fun a => if a = q ∨ a = mu q then a else mu a
def ctM (mu : Nat → Nat) : Nat := fb_ct (fun k => decide (mu k ≠ k)) 64
theorem um_MU {R q : Nat} {mu : Nat → Nat} (h : MU R mu) : MU R (umT mu q) ∧ umT mu q q = q ∧ ∀ a, mu a = a → umT mu q a = a := by
  obtain ⟨h1, h2⟩ := h
  refine ⟨⟨fun a => ?_, fun a ha => ?_⟩, by unfold umT; rw [if_pos (.inl rfl)], fun a ha => by unfold umT; split; rfl; exact ha⟩
  · unfold umT
    by_cases z : a = q ∨ a = mu q
    · rw [if_pos z, if_pos z]
    · rw [if_neg z]
      have z2 : ¬ (mu a = q ∨ mu a = mu q) := fun w => by
        rcases w with w | w
        · exact z (.inr (by rw [← w, h1]))
        · exact z (.inl (by rw [← h1 a, w, h1]))
      rw [if_neg z2, h1]
  · unfold umT at ha ⊢
    by_cases z : a = q ∨ a = mu q
    · rw [if_pos z] at ha; exact absurd rfl ha
    · rw [if_neg z] at ha ⊢; exact h2 a ha
theorem um_ct {R q : Nat} {mu : Nat → Nat} (hR : R < 2 ^ 64) (h : MU R mu) : ctM mu ≤ ctM (umT mu q) + 2 ∧ (mu q ≠ q → ctM mu = ctM (umT mu q) + 2) := by
  by_cases z : mu q = q
  · have e : umT mu q = mu := by
      funext a; unfold umT
      by_cases w : a = q ∨ a = mu q
      · rw [if_pos w]
        rcases w with w | w
        · rw [w, z]
        · rw [w, z, z]
      · rw [if_neg w]
    rw [e]
    exact ⟨by omega, fun w => absurd z w⟩
  · have q64 := tb_lt hR (h.2 q z).1
    have nq : mu (mu q) ≠ mu q := fun w => z (by rw [h.1] at w; exact w.symm)
    have m64 := tb_lt hR (h.2 (mu q) nq).1
    have e : (fun k => decide (mu k ≠ k)) = fun k => if k = mu q then true else (fun k => if k = q then true else (fun k => decide (umT mu q k ≠ k)) k) k := by
      funext k
      by_cases k1 : k = mu q
      · rw [if_pos k1, k1]; exact decide_eq_true nq
      · rw [if_neg k1]
        dsimp only
        by_cases k2 : k = q
        · rw [if_pos k2, k2]; exact decide_eq_true z
        · rw [if_neg k2]; unfold umT; rw [if_neg (fun w => w.elim k2 k1)]
    have u1 := ct_add (p := fun k => decide (umT mu q k ≠ k)) (i := q) (n := 64) q64 (by unfold umT; simp)
    have u2 := ct_add (p := fun k => if k = q then true else (fun k => decide (umT mu q k ≠ k)) k) (i := mu q) (n := 64) m64 (by dsimp only; rw [if_neg z]; unfold umT; simp)
    have t : ctM mu = ctM (umT mu q) + 2 := by
      unfold ctM
      rw [e, u2, u1]
    exact ⟨by omega, fun _ => t⟩
theorem MU_rm {R p : Nat} {mu : Nat → Nat} (hR : R < 2 ^ 64) (h : MU R mu) (hp : mu p = p) : MU (rmS R (2 ^ p)) mu := ⟨h.1, fun a ha => ⟨rm_tb2 hR (h.2 a ha).1 (fun e => ha (by rw [e]; exact hp)), (h.2 a ha).2⟩⟩
theorem MU_trm {A : Nat} {mu : Nat → Nat} (hA : A < 2 ^ 64) (h : MU A mu) : MU (trm A) mu := ⟨h.1, fun a ha => by
  obtain ⟨w1, w2⟩ := h.2 a ha
  have np : mu (mu a) ≠ mu a := fun w => ha (by rw [h.1] at w; exact w.symm)
  exact ⟨trm_in hA w1 (h.2 (mu a) np).1 (adj_sym.mp w2), w2⟩⟩
theorem MU_0 {mu : Nat → Nat} (hM : MU 0 mu) : ctM mu = 0 := fb_ct_zero.mpr (fun k _ => decide_eq_false (fun w => by
  have := (hM.2 k w).1
  rw [Nat.zero_testBit] at this; cases this))
theorem mo_mat : ∀ n A mu, A < 2 ^ 64 → pop A ≤ n → n ≤ 24 → MU A mu → ctM mu ≤ 2 * mo 24 A
  | 0, A, mu, hA, hn, _, hM => by
    have z := (pop_z hA).mp (by omega)
    subst z
    have := MU_0 hM
    omega
  | n + 1, A, mu, hA, hn, h24, hMA => by
    obtain ⟨R, eR⟩ : ∃ R, R = trm A := ⟨_, rfl⟩
    have hR : R < 2 ^ 64 := by rw [eR]; exact trm_lt hA
    have tp : pop R ≤ pop A := by rw [eR]; exact trm_pop
    have hM : MU R mu := by rw [eR]; exact MU_trm hA hMA
    by_cases z : R = 0
    · rw [z] at hM
      have := MU_0 hM
      omega
    · obtain ⟨h1, h2, _, h4⟩ := low_p hR z
      obtain ⟨p, ep⟩ : ∃ p, p = lbp R := ⟨_, rfl⟩
      rw [← ep] at h1 h2 h4
      have p1 := pop_rm1 hR h1
      have two : ∀ q mu', ((q = p + 1 ∧ p % 8 < 7) ∨ q = p + 8) → R.testBit q = true → MU R mu' → mu' p = p → mu' q = q → ctM mu' ≤ 2 * mo 24 (rmS (rmS R (2 ^ p)) (2 ^ q)) := fun q mu' hq hq2 hM' e1 e2 => by
        have p2 := pop_rm2 (R := R) (P := 2 ^ p) (S := 2 ^ q)
        exact mo_mat n _ mu' rmS_lt (by omega) (by omega) (MU_rm rmS_lt (MU_rm hR hM' e1) e2)
      obtain ⟨q, hq, hq2, e, g⟩ := mo_c hA (by omega) eR z ep
      by_cases c : mu p = p
      · obtain ⟨u1, u2, u3⟩ := um_MU (q := q) hM
        have ih := two q (umT mu q) hq hq2 u1 (u3 p c) u2
        have uc := (um_ct (q := q) hR hM).1
        omega
      · obtain ⟨w1, w2⟩ := hM.2 p c
        have np : mu (mu p) ≠ mu p := fun w => c (by rw [hM.1] at w; exact w.symm)
        have w3 := (hM.2 (mu p) np).1
        have ge : p < mu p := by
          rcases Nat.lt_trichotomy (mu p) p with q | q | q
          · rw [h4 _ q] at w3; cases w3
          · exact absurd q c
          · exact q
        have hq' : (mu p = p + 1 ∧ p % 8 < 7) ∨ mu p = p + 8 := by unfold adj at w2; omega
        obtain ⟨u1, u2, u3⟩ := um_MU (q := p) hM
        have um2 : umT mu p (mu p) = mu p := by unfold umT; rw [if_pos (.inr rfl)]
        have ih := two (mu p) (umT mu p) hq' w3 u1 u2 um2
        have uc := (um_ct (q := p) hR hM).2 c
        have := g (mu p) hq' w3
        omega
