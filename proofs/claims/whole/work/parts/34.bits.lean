/-! ===== sets of bits, as numbers ===== -/
def bsB (p : Nat → Bool) : Nat → Nat
  | 0 => 0
  | n + 1 => bsB p n ||| (if p n = true then 2 ^ n else 0)
theorem bsB_lt (p : Nat → Bool) : ∀ n, bsB p n < 2 ^ n
  | 0 => Nat.one_pos
  | n + 1 => by
    have h := bsB_lt p n
    have e : 2 ^ n < 2 ^ (n + 1) := Nat.pow_lt_pow_right (by decide) (by omega)
    rw [bsB]
    refine Nat.or_lt_two_pow (by omega) ?_
    split
    · exact e
    · exact Nat.two_pow_pos _
theorem bsB_tb (p : Nat → Bool) : ∀ n k, (bsB p n).testBit k = (decide (k < n) && p k)
  | 0, k => by simp [bsB]
  | n + 1, k => by
    rw [bsB, Nat.testBit_or, bsB_tb p n k]
    by_cases h : p n = true
    · rw [if_pos h, Nat.testBit_two_pow]
      by_cases e : n = k
      · subst e; simp [h]
      · have : (decide (k < n + 1)) = decide (k < n) := decide_eq_decide.mpr (by omega)
        simp [e, this]
    · rw [if_neg h, Nat.zero_testBit, Bool.or_false]
      by_cases e : k = n
      · subst e; simp [h]
      · have : (decide (k < n + 1)) = decide (k < n) := decide_eq_decide.mpr (by omega)
        rw [this]
noncomputable def cd (P : Prop) : Bool := @decide P (Classical.propDecidable P)
theorem cd_iff {P : Prop} : cd P = true ↔ P := @decide_eq_true_iff P (Classical.propDecidable P)
theorem cd_f {P : Prop} : cd P = false ↔ ¬ P := @decide_eq_false_iff_not P (Classical.propDecidable P)
noncomputable def bs (P : Nat → Prop) : Nat := bsB (fun k => cd (P k)) 24
theorem bs_lt (P : Nat → Prop) : bs P < 2 ^ 24 := bsB_lt _ 24
theorem bs_lt31 (P : Nat → Prop) : bs P < 2 ^ 31 := Nat.lt_trans (bs_lt P) (by decide)
theorem bs_tb {P : Nat → Prop} {k : Nat} : (bs P).testBit k = true ↔ k < 24 ∧ P k := by
  unfold bs
  rw [bsB_tb, Bool.and_eq_true, decide_eq_true_iff, cd_iff]
theorem bs_tbB {P : Nat → Prop} {k : Nat} : (bs P).testBit k = cd (k < 24 ∧ P k) := by
  rw [Bool.eq_iff_iff, bs_tb, cd_iff]
theorem nat_ext {a b : Nat} (h : ∀ k, a.testBit k = true ↔ b.testBit k = true) : a = b := Nat.eq_of_testBit_eq (fun k => Bool.eq_iff_iff.mpr (h k))
theorem bs_ext {P Q : Nat → Prop} (h : ∀ k, k < 24 → (P k ↔ Q k)) : bs P = bs Q := nat_ext (fun k => by
  rw [bs_tb, bs_tb]
  exact ⟨fun z => ⟨z.1, (h k z.1).mp z.2⟩, fun z => ⟨z.1, (h k z.1).mpr z.2⟩⟩)
theorem tb_lt {x n k : Nat} (h : x < 2 ^ n) (hk : x.testBit k = true) : k < n := by
  rcases Nat.lt_or_ge k n with q | q
  · exact q
  · rw [Nat.testBit_lt_two_pow (Nat.lt_of_lt_of_le h (Nat.pow_le_pow_right (by decide) q))] at hk; cases hk
theorem bs_self {x : Nat} (h : x < 2 ^ 24) : bs (fun k => x.testBit k = true) = x := nat_ext (fun k => by
  rw [bs_tb]
  exact ⟨fun z => z.2, fun z => ⟨tb_lt h z, z⟩⟩)
theorem bs_0 {P : Nat → Prop} (h : ∀ k, k < 24 → ¬ P k) : bs P = 0 := nat_ext (fun k => by
  rw [bs_tb, Nat.zero_testBit]
  exact ⟨fun z => absurd z.2 (h k z.1), fun z => by cases z⟩)
theorem bs_n0 {P : Nat → Prop} : bs P ≠ 0 ↔ ∃ k, k < 24 ∧ P k := by
  constructor
  · intro h
    refine Classical.byContradiction (fun z => h (bs_0 (fun k hk hp => z ⟨k, hk, hp⟩)))
  · rintro ⟨k, hk, hp⟩ e
    have := bs_tb.mpr ⟨hk, hp⟩
    rw [e, Nat.zero_testBit] at this
    cases this
theorem bs_or {P Q : Nat → Prop} : bs P ||| bs Q = bs (fun k => P k ∨ Q k) := nat_ext (fun k => by
  rw [Nat.testBit_or, Bool.or_eq_true, bs_tb, bs_tb, bs_tb]
  constructor
  · rintro (⟨a, b⟩ | ⟨a, b⟩)
    · exact ⟨a, .inl b⟩
    · exact ⟨a, .inr b⟩
  · rintro ⟨a, b | b⟩
    · exact .inl ⟨a, b⟩
    · exact .inr ⟨a, b⟩)
theorem bs_and {P Q : Nat → Prop} : bs P &&& bs Q = bs (fun k => P k ∧ Q k) := nat_ext (fun k => by
  rw [Nat.testBit_and, Bool.and_eq_true, bs_tb, bs_tb, bs_tb]
  constructor
  · rintro ⟨⟨a, b⟩, ⟨_, c⟩⟩; exact ⟨a, b, c⟩
  · rintro ⟨a, b, c⟩; exact ⟨⟨a, b⟩, a, c⟩)
theorem bs_ins {P : Nat → Prop} {b : Nat} (hb : b < 24) : bs P ||| 2 ^ b = bs (fun k => P k ∨ k = b) := nat_ext (fun k => by
  rw [Nat.testBit_or, Nat.testBit_two_pow, Bool.or_eq_true, bs_tb, bs_tb, decide_eq_true_iff]
  constructor
  · rintro (⟨a, b⟩ | e)
    · exact ⟨a, .inl b⟩
    · exact ⟨by omega, .inr e.symm⟩
  · rintro ⟨a, b | b⟩
    · exact .inl ⟨a, b⟩
    · exact .inr b.symm)
/-! ===== how many bits ===== -/
def pop (x : Nat) : Nat := fb_ct x.testBit 64
theorem pop_bs (P : Nat → Prop) : pop (bs P) = fb_ct (fun k => cd (P k)) 24 := by
  unfold pop
  have h := fb_ct_split (bs P).testBit 24 40
  rw [h, (fb_ct_zero (p := fun k => (bs P).testBit (24 + k)) (n := 40)).mpr (fun k _ => by
    cases e : (bs P).testBit (24 + k) with
    | false => rfl
    | true => have := (bs_tb.mp e).1; omega), Nat.add_zero]
  exact fb_ct_cong (fun k hk => by rw [Bool.eq_iff_iff, bs_tb, cd_iff]; exact ⟨fun z => z.2, fun z => ⟨hk, z⟩⟩)
theorem and_split {a b c d : Nat} (hb : b < 256) (hd : d < 256) : (256 * a + b) &&& (256 * c + d) = 256 * (a &&& c) + (b &&& d) := by
  have e1 := Nat.testBit_two_pow_mul_add a (i := 8) hb
  have e2 := Nat.testBit_two_pow_mul_add c (i := 8) hd
  have e3 := Nat.testBit_two_pow_mul_add (a &&& c) (i := 8) (b := b &&& d) (Nat.lt_of_le_of_lt Nat.and_le_left hb)
  apply Nat.eq_of_testBit_eq
  intro j
  rw [Nat.testBit_and]
  have e1 := e1 j; have e2 := e2 j; have e3 := e3 j
  rw [show (2 : Nat) ^ 8 = 256 from rfl] at e1 e2 e3
  rw [e1, e2, e3]
  split <;> rw [Nat.testBit_and]
def mkM (c : Nat) : Nat → Nat
  | 0 => 0
  | k + 1 => 256 * mkM c k + c
theorem sw_a1 : ∀ t, t < 2 → ∀ s, s < 128 → (128 * t + s) &&& 85 = s &&& 85 := by decide +kernel
theorem sw_a2 : ∀ t, t < 4 → ∀ s, s < 64 → (64 * t + s) &&& 51 = s &&& 51 := by decide +kernel
def sw_p1 (r : Nat) : Nat := r - ((r / 2) &&& 85)
def sw_p2 (r : Nat) : Nat := (r &&& 51) + ((r / 4) &&& 51)
def sw_p3 (r : Nat) : Nat := (r + r / 16) &&& 15
def sw_1 (k x : Nat) : Nat := x - ((x / 2) &&& mkM 85 k)
def sw_2 (k x : Nat) : Nat := (x &&& mkM 51 k) + ((x / 4) &&& mkM 51 k)
def sw_3 (k x : Nat) : Nat := (x + x / 16) &&& mkM 15 k
theorem sw_b1 {k q r : Nat} (hr : r < 256) : sw_1 (k + 1) (256 * q + r) = 256 * sw_1 k q + sw_p1 r := by
  unfold sw_1 sw_p1
  rw [mkM]
  have e : (256 * q + r) / 2 = 256 * (q / 2) + (128 * (q % 2) + r / 2) := by omega
  rw [e, and_split (by omega) (by decide), sw_a1 _ (by omega) _ (by omega)]
  have h1 : (q / 2) &&& mkM 85 k ≤ q / 2 := Nat.and_le_left
  have h2 : (r / 2) &&& 85 ≤ r / 2 := Nat.and_le_left
  omega
theorem sw_b2 {k q r : Nat} (hr : r < 256) : sw_2 (k + 1) (256 * q + r) = 256 * sw_2 k q + sw_p2 r := by
  unfold sw_2 sw_p2
  rw [mkM]
  have e : (256 * q + r) / 4 = 256 * (q / 4) + (64 * (q % 4) + r / 4) := by omega
  rw [e, and_split (a := q) hr (by decide), and_split (a := q / 4) (by omega) (by decide), sw_a2 _ (by omega) _ (by omega)]
  omega
theorem sw_b3 {k q r : Nat} (hr : r + r / 16 + 16 * (q % 16) < 256) : sw_3 (k + 1) (256 * q + r) = 256 * sw_3 k q + sw_p3 r := by
  unfold sw_3 sw_p3
  rw [mkM]
  have e : (256 * q + r) + (256 * q + r) / 16 = 256 * (q + q / 16) + (r + r / 16 + 16 * (q % 16)) := by omega
  have a15 : ∀ x : Nat, x &&& 15 = x % 16 := fun x => Nat.and_two_pow_sub_one_eq_mod x 4
  rw [e, and_split hr (by decide), a15, a15]
  omega
theorem sw_byte : ∀ r, r < 256 → sw_p1 r < 256 ∧ sw_p2 (sw_p1 r) < 256 ∧ sw_p2 (sw_p1 r) + sw_p2 (sw_p1 r) / 16 < 100 ∧ sw_p2 (sw_p1 r) % 16 ≤ 4 ∧ sw_p3 (sw_p2 (sw_p1 r)) = fb_ct r.testBit 8 := by decide +kernel
def sw_Q : Nat → Nat → Nat
  | 0, _ => 0
  | k + 1, x => 256 * sw_Q k (x / 256) + fb_ct (x % 256).testBit 8
theorem sw_nib : ∀ k x, x < 256 ^ k → sw_2 k (sw_1 k x) % 16 ≤ 4
  | 0, x, h => by
    have : x = 0 := by omega
    subst this; decide
  | k + 1, x, h => by
    have e : x = 256 * (x / 256) + x % 256 := by omega
    obtain ⟨h1, h2, h3, h4, h5⟩ := sw_byte (x % 256) (by omega)
    rw [e, sw_b1 (by omega), sw_b2 h1]
    omega
theorem sw_all : ∀ k x, x < 256 ^ k → sw_3 k (sw_2 k (sw_1 k x)) = sw_Q k x
  | 0, x, h => by
    have : x = 0 := by omega
    subst this; decide
  | k + 1, x, h => by
    have e : x = 256 * (x / 256) + x % 256 := by omega
    have hq : x / 256 < 256 ^ k := by rw [Nat.pow_succ] at h; omega
    obtain ⟨h1, h2, h3, h4, h5⟩ := sw_byte (x % 256) (by omega)
    have hn := sw_nib k (x / 256) hq
    have hs := sw_all k (x / 256) hq
    conv => lhs; rw [e]
    rw [sw_b1 (by omega), sw_b2 h1, sw_b3 (by omega), hs, h5, sw_Q]
theorem ct_byte (x n : Nat) : fb_ct x.testBit (8 + n) = fb_ct (x % 256).testBit 8 + fb_ct (x / 256).testBit n := by
  rw [fb_ct_split]
  congr 1
  · refine fb_ct_cong (fun k hk => ?_)
    have := Nat.testBit_mod_two_pow x 8 k
    rw [show (2 : Nat) ^ 8 = 256 from rfl] at this
    rw [this]; simp [hk]
  · refine fb_ct_cong (fun k hk => ?_)
    have := Nat.testBit_div_two_pow (x := x) (n := 8) k
    rw [show (2 : Nat) ^ 8 = 256 from rfl] at this
    rw [this, Nat.add_comm]
theorem ct8_le (x : Nat) : fb_ct x.testBit 8 ≤ 8 := fb_ct_le _ 8
theorem pop32 {x : Nat} (h : x < 2 ^ 32) : fb_ct x.testBit 32 = pop x := by
  unfold pop
  rw [fb_ct_split x.testBit 32 32, (fb_ct_zero (p := fun k => x.testBit (32 + k)) (n := 32)).mpr (fun k _ => Nat.testBit_lt_two_pow (Nat.lt_of_lt_of_le h (Nat.pow_le_pow_right (by decide) (by omega)))), Nat.add_zero]
theorem sw_num32 {d0 d1 d2 d3 : Nat} (h0 : d0 ≤ 8) (h1 : d1 ≤ 8) (h2 : d2 ≤ 8) (h3 : d3 ≤ 8) (y : Nat) (hy : y = 256 * (256 * (256 * (256 * 0 + d3) + d2) + d1) + d0) : ((y + y / 256) + (y + y / 256) / 65536) % 64 = d0 + (d1 + (d2 + d3)) := by
  have e1 : y / 256 = d1 + 256 * d2 + 65536 * d3 := by omega
  rw [e1]
  have e2 : (y + (d1 + 256 * d2 + 65536 * d3)) / 65536 = d2 + d3 + 256 * d3 := by omega
  rw [e2]
  omega
theorem sw_sum32 {x y : Nat} (hx : x < 2 ^ 32) (hy : y = sw_Q 4 x) : ((y + y / 256) + (y + y / 256) / 65536) % 64 = pop x := by
  have q := pop32 hx
  rw [show (32 : Nat) = 8 + (8 + (8 + (8 + 0))) from rfl, ct_byte, ct_byte, ct_byte, ct_byte, fb_ct] at q
  simp only [sw_Q] at hy
  rw [sw_num32 (ct8_le _) (ct8_le _) (ct8_le _) (ct8_le _) y hy, ← q]
  rfl
theorem sw_num64 {d0 d1 d2 d3 d4 d5 d6 d7 : Nat} (h0 : d0 ≤ 8) (h1 : d1 ≤ 8) (h2 : d2 ≤ 8) (h3 : d3 ≤ 8) (h4 : d4 ≤ 8) (h5 : d5 ≤ 8) (h6 : d6 ≤ 8) (h7 : d7 ≤ 8) (y : Nat) (hy : y = 256 * (256 * (256 * (256 * (256 * (256 * (256 * (256 * 0 + d7) + d6) + d5) + d4) + d3) + d2) + d1) + d0) : ((y + y / 256) + (y + y / 256) / 65536 + ((y + y / 256) + (y + y / 256) / 65536) / 4294967296) % 128 = d0 + (d1 + (d2 + (d3 + (d4 + (d5 + (d6 + d7)))))) := by
  have e1 : y / 256 = 256 * (256 * (256 * (256 * (256 * (256 * d7 + d6) + d5) + d4) + d3) + d2) + d1 := by omega
  obtain ⟨z, hz⟩ : ∃ z, z = y + y / 256 := ⟨_, rfl⟩
  rw [← hz]
  have e2 : z = 256 * (256 * (256 * (256 * (256 * (256 * (256 * d7 + (d6 + d7)) + (d5 + d6)) + (d4 + d5)) + (d3 + d4)) + (d2 + d3)) + (d1 + d2)) + (d0 + d1) := by omega
  clear hz e1 hy
  have e3 : z / 65536 = 256 * (256 * (256 * (256 * (256 * d7 + (d6 + d7)) + (d5 + d6)) + (d4 + d5)) + (d3 + d4)) + (d2 + d3) := by omega
  obtain ⟨w, hw⟩ : ∃ w, w = z + z / 65536 := ⟨_, rfl⟩
  rw [← hw]
  have e6 : w = 256 * (256 * (256 * (256 * (256 * (256 * (256 * d7 + (d6 + d7)) + (d5 + d6 + d7)) + (d4 + d5 + d6 + d7)) + (d3 + d4 + d5 + d6)) + (d2 + d3 + d4 + d5)) + (d1 + d2 + d3 + d4)) + (d0 + d1 + d2 + d3) := by omega
  clear hw e2 e3
  have e4 : w / 4294967296 = 256 * (256 * (256 * d7 + (d6 + d7)) + (d5 + d6 + d7)) + (d4 + d5 + d6 + d7) := by omega
  have e5 : w % 256 = d0 + d1 + d2 + d3 := by omega
  rw [e4]
  clear e4 e6
  omega
theorem sw_sum64 {x y : Nat} (hy : y = sw_Q 8 x) : ((y + y / 256) + (y + y / 256) / 65536 + ((y + y / 256) + (y + y / 256) / 65536) / 4294967296) % 128 = pop x := by
  have q : fb_ct x.testBit 64 = pop x := rfl
  rw [show (64 : Nat) = 8 + (8 + (8 + (8 + (8 + (8 + (8 + (8 + 0))))))) from rfl, ct_byte, ct_byte, ct_byte, ct_byte, ct_byte, ct_byte, ct_byte, ct_byte, fb_ct] at q
  simp only [sw_Q] at hy
  rw [sw_num64 (ct8_le _) (ct8_le _) (ct8_le _) (ct8_le _) (ct8_le _) (ct8_le _) (ct8_le _) (ct8_le _) y hy, ← q]
  rfl
