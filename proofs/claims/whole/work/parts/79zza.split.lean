/-! ===== parting: couples and threes (pure) ===== -/
noncomputable def rmS (R Q : Nat) : Nat := b64 (fun k => R.testBit k = true ∧ Q.testBit k = false)
theorem rmS_tb {R Q k : Nat} (hR : R < 2 ^ 64) : (rmS R Q).testBit k = true ↔ R.testBit k = true ∧ Q.testBit k = false := by
  unfold rmS
  rw [b64_tb]
  exact ⟨fun h => h.2, fun h => ⟨tb_lt hR h.1, h⟩⟩
theorem rmS_lt {R Q : Nat} : rmS R Q < 2 ^ 64 := b64_lt _
theorem rmS_l {R Q : Nat} (hR : R < 2 ^ 64) (hQ : Q < 2 ^ 64) : lN R &&& (lN Q ^^^ -(lN 1)) = lN (rmS R Q) := by
  rw [l_not hQ, fb_andL]
  congr 1
  refine nat_ext (fun k => ?_)
  rw [Nat.testBit_and, Bool.and_eq_true, rmS_tb hR]
  constructor
  · rintro ⟨a, b⟩
    rw [nt_tb hQ, Bool.and_eq_true] at b
    exact ⟨a, by simpa using b.2⟩
  · rintro ⟨a, b⟩
    exact ⟨a, by rw [nt_tb hQ, b, decide_eq_true (tb_lt hR a)]; rfl⟩
theorem rmS_pop {R p : Nat} (hR : R < 2 ^ 64) (hp : R.testBit p = true) : pop (rmS R (2 ^ p)) + 1 = pop R := by
  have p64 := tb_lt hR hp
  have e : R.testBit = fun k => if k = p then true else (rmS R (2 ^ p)).testBit k := by
    funext k
    by_cases z : k = p
    · rw [if_pos z, z]; exact hp
    · rw [if_neg z, Bool.eq_iff_iff, rmS_tb hR, Nat.testBit_two_pow]
      exact ⟨fun h => ⟨h, decide_eq_false (fun q => z q.symm)⟩, fun h => h.1⟩
  have n : (rmS R (2 ^ p)).testBit p = false := by
    rw [← Bool.not_eq_true, rmS_tb hR, Nat.testBit_two_pow]
    simp
  unfold pop
  have c := ct_add (p := (rmS R (2 ^ p)).testBit) (i := p) (n := 64) p64 n
  rw [← e] at c
  exact c.symm
noncomputable def alg (f : Nat → Nat) (R P S T : Nat) : Nat := if R &&& S = 0 then 0 else f (rmS (rmS R P) S) * 2 ||| (if R &&& T = 0 then 0 else f (rmS (rmS (rmS R P) S) T))
def lbp (R : Nat) : Nat := fa_first R.testBit 64
def upN (P k : Nat) : Nat := P * 2 ^ k % 2 ^ 64
noncomputable def sp : Nat → Nat → Nat
  | 0, R => if R = 0 then 1 else 0
  | n + 1, R => if R = 0 then 1 else alg (sp n) R (2 ^ lbp R) (rtN (2 ^ lbp R)) (rtN (rtN (2 ^ lbp R))) ||| alg (sp n) R (2 ^ lbp R) (upN (2 ^ lbp R) 8) (upN (2 ^ lbp R) 16)
theorem alg_lt {f : Nat → Nat} {R P S T n : Nat} (h : ∀ R, f R < 2 ^ (n + 1)) : alg f R P S T < 2 ^ (n + 2) := by
  unfold alg
  split
  · exact Nat.two_pow_pos _
  · refine Nat.or_lt_two_pow ?_ ?_
    · have := h (rmS (rmS R P) S)
      rw [Nat.pow_succ]; omega
    · split
      · exact Nat.two_pow_pos _
      · exact Nat.lt_trans (h _) (Nat.pow_lt_pow_right (by decide) (by omega))
theorem sp_lt : ∀ n R, sp n R < 2 ^ (n + 1)
  | 0, R => by unfold sp; split <;> decide
  | n + 1, R => by
    unfold sp
    split
    · exact Nat.lt_of_lt_of_le (by decide : 1 < 2 ^ 1) (Nat.pow_le_pow_right (by decide) (by omega))
    · exact Nat.or_lt_two_pow (alg_lt (sp_lt n)) (alg_lt (sp_lt n))
theorem lbp_s {R p : Nat} (hR : R < 2 ^ 64) (h1 : R.testBit p = true) (h2 : ∀ q, q < p → R.testBit q = false) : lbp R = p := by
  have p64 := tb_lt hR h1
  unfold lbp
  rcases Nat.lt_trichotomy (fa_first R.testBit 64) p with z | z | z
  · have := fa_first_yes R.testBit 64 (by omega)
    rw [h2 _ z] at this; cases this
  · exact z
  · have := fa_first_no R.testBit 64 p z
    rw [h1] at this; cases this
/-- what is taken lies in the rest, or nothing is taken -/
theorem pw1 {R S : Nat} (hR : R < 2 ^ 64) (hs : S = 0 ∨ ∃ q, S = 2 ^ q) (h : R &&& S ≠ 0) : ∃ q, S = 2 ^ q ∧ R.testBit q = true := by
  rcases hs with z | ⟨q, z⟩
  · rw [z, Nat.and_zero] at h; exact absurd rfl h
  · refine ⟨q, z, ?_⟩
    cases c : R.testBit q with
    | true => rfl
    | false => exact absurd (by rw [z]; exact (fb_bit_nat R q).mpr c) h
theorem rtN_pw {p : Nat} (hp : p < 64) : rtN (2 ^ p) = if p % 8 < 7 then 2 ^ (p + 1) else 0 := by
  have h64 : 2 ^ p < 2 ^ 64 := pw_lt hp
  refine nat_ext (fun k => ?_)
  rw [rtN_tb h64]
  by_cases z : p % 8 < 7
  · rw [if_pos z, Nat.testBit_two_pow, decide_eq_true_iff]
    constructor
    · rintro ⟨q, a, b, c⟩
      rw [Nat.testBit_two_pow, decide_eq_true_iff] at a; omega
    · intro e
      exact ⟨p, by rw [Nat.testBit_two_pow]; simp, e.symm, z⟩
  · rw [if_neg z, Nat.zero_testBit]
    constructor
    · rintro ⟨q, a, b, c⟩
      rw [Nat.testBit_two_pow, decide_eq_true_iff] at a; subst a; exact absurd c z
    · intro e; cases e
theorem rtN_0 : rtN 0 = 0 := by decide +kernel
theorem upN_pw {p k : Nat} : upN (2 ^ p) k = if p + k < 64 then 2 ^ (p + k) else 0 := by
  unfold upN
  rw [← Nat.pow_add]
  by_cases z : p + k < 64
  · rw [if_pos z, Nat.mod_eq_of_lt (pw_lt z)]
  · rw [if_neg z]
    have : 2 ^ (p + k) = 2 ^ 64 * 2 ^ (p + k - 64) := by rw [← Nat.pow_add]; congr 1; omega
    rw [this, Nat.mul_mod_right]
theorem rt_c {p : Nat} (hp : p < 64) : rtN (2 ^ p) = 0 ∨ ∃ q, rtN (2 ^ p) = 2 ^ q := by
  rw [rtN_pw hp]; split
  · exact .inr ⟨_, rfl⟩
  · exact .inl rfl
theorem rt_c2 {p : Nat} (hp : p < 64) : rtN (rtN (2 ^ p)) = 0 ∨ ∃ q, rtN (rtN (2 ^ p)) = 2 ^ q := by
  rw [rtN_pw hp]; split
  · exact rt_c (by omega)
  · rw [rtN_0]; exact .inl rfl
theorem up_c {p k : Nat} : upN (2 ^ p) k = 0 ∨ ∃ q, upN (2 ^ p) k = 2 ^ q := by
  rw [upN_pw]; split
  · exact .inr ⟨_, rfl⟩
  · exact .inl rfl
