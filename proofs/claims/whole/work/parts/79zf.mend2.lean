/-! ===== mending: the exchanges ===== -/
section
variable (F1 : Nat) (B1 : Nat → Int32) (F2 al : Nat) (mks : Nat → Nat)
noncomputable def bdN (B : Nat → Int32) : Nat := pop (badS F1 B1 F2 B al mks)
noncomputable def twN (B : Nat → Int32) : Nat := twi F1 B1 F2 B
def btr (B B' : Nat → Int32) : Prop := bdN F1 B1 F2 al mks B' < bdN F1 B1 F2 al mks B ∨ (bdN F1 B1 F2 al mks B' = bdN F1 B1 F2 al mks B ∧ twN F1 B1 F2 B / 2 < twN F1 B1 F2 B' / 2)
noncomputable def tstE (B : Nat → Int32) (k : Nat) : Bool := decide (k / 24 < k % 24) && decide (k % 24 < pop F2) && cd (btr F1 B1 F2 al mks B (swp B (k / 24) (k % 24)))
noncomputable def fp (B : Nat → Int32) : Nat := fa_first (tstE F1 B1 F2 al mks B) 576
noncomputable def mnd : Nat → (Nat → Int32) → (Nat → Int32)
  | 0, B => B
  | k + 1, B => if fp F1 B1 F2 al mks B < 576 then mnd k (swp B (fp F1 B1 F2 al mks B / 24) (fp F1 B1 F2 al mks B % 24)) else B
noncomputable def phi (B : Nat → Int32) : Nat := bdN F1 B1 F2 al mks B * (48 - bdN F1 B1 F2 al mks B) + 48 - twN F1 B1 F2 B / 2
end
theorem swp_i {b : Nat → Int32} {i j : Nat} (h : i ≠ j) : swp b i j i = b j := by unfold swp; rw [vu_ne h, vu_eq]
theorem swp_j {b : Nat → Int32} {i j : Nat} : swp b i j j = b i := by unfold swp; rw [vu_eq]
theorem swp_o {b : Nat → Int32} {i j k : Nat} (h1 : k ≠ i) (h2 : k ≠ j) : swp b i j k = b k := by unfold swp; rw [vu_ne h2, vu_ne h1]
theorem swp_swp {b : Nat → Int32} {i j : Nat} (h : i ≠ j) : swp (swp b i j) i j = b := by
  funext k
  by_cases k1 : k = i
  · subst k1; rw [swp_i h, swp_j]
  · by_cases k2 : k = j
    · subst k2; rw [swp_j, swp_i h]
    · rw [swp_o k1 k2, swp_o k1 k2]
theorem swp_WB {B : Nat → Int32} {n i j : Nat} (hB : WB B n) (hi : i < n) (hj : j < n) (h : i ≠ j) : WB (swp B i j) n := by
  have v : ∀ k, k < n → ∃ k', k' < n ∧ swp B i j k = B k' ∧ ((k = i ∧ k' = j) ∨ (k = j ∧ k' = i) ∨ (k ≠ i ∧ k ≠ j ∧ k' = k)) := fun k hk => by
    by_cases k1 : k = i
    · subst k1; exact ⟨j, hj, swp_i h, .inl ⟨rfl, rfl⟩⟩
    · by_cases k2 : k = j
      · subst k2; exact ⟨i, hi, swp_j, .inr (.inl ⟨rfl, rfl⟩)⟩
      · exact ⟨k, hk, swp_o k1 k2, .inr (.inr ⟨k1, k2, rfl⟩)⟩
  refine ⟨fun k hk => ?_, fun k l hk hl e ne => ?_, fun k h1 h2 => ?_⟩
  · obtain ⟨k', h1, h2, _⟩ := v k hk
    rw [h2]; exact hB.1 k' h1
  · obtain ⟨k', h1, h2, h3⟩ := v k hk
    obtain ⟨l', g1, g2, g3⟩ := v l hl
    rw [h2, g2] at e
    rw [h2] at ne
    have := hB.2.1 k' l' h1 g1 e ne
    omega
  · rw [swp_o (by omega) (by omega)]; exact hB.2.2 k h1 h2
theorem nbr_cg {F : Nat} {B B' : Nat → Int32} {i : Nat} (h : ∀ j, j < pop F → adj (pl F i) (pl F j) → B j = B' j) : nbr F B i = nbr F B' i := bs_ext (fun c _ => by
  constructor
  · rintro ⟨j, h1, h2, h3⟩; exact ⟨j, h1, h2, by rw [← h j h1 h2]; exact h3⟩
  · rintro ⟨j, h1, h2, h3⟩; exact ⟨j, h1, h2, by rw [h j h1 h2]; exact h3⟩)
theorem nr_cg {F : Nat} {B B' : Nat → Int32} {b : Nat} (h : ∀ j, j < pop F → B j = B' j) : nr F B b = nr F B' b := bs_ext (fun c _ => by
  constructor
  · rintro ⟨i, j, h1, h2, h3, h4, h5⟩; exact ⟨i, j, h1, h2, by rw [← h i h1]; exact h3, h4, by rw [← h j h2]; exact h5⟩
  · rintro ⟨i, j, h1, h2, h3, h4, h5⟩; exact ⟨i, j, h1, h2, by rw [h i h1]; exact h3, h4, by rw [h j h2]; exact h5⟩)
theorem bdN_cg {F1 F2 al : Nat} {B1 B B' : Nat → Int32} {mks : Nat → Nat} (h : ∀ j, j < pop F2 → B j = B' j) : bdN F1 B1 F2 al mks B = bdN F1 B1 F2 al mks B' ∧ twN F1 B1 F2 B = twN F1 B1 F2 B' := by
  have n : ∀ b, nr F2 B b = nr F2 B' b := fun b => nr_cg h
  constructor
  · unfold bdN
    congr 1
    refine bs_ext (fun b _ => ?_)
    rw [n]
    constructor
    · rintro ⟨⟨i, h1, h2⟩, h3⟩; exact ⟨⟨i, h1, by rw [← h i h1]; exact h2⟩, h3⟩
    · rintro ⟨⟨i, h1, h2⟩, h3⟩; exact ⟨⟨i, h1, by rw [h i h1]; exact h2⟩, h3⟩
  · unfold twN twi
    exact fb_sm_cong (fun b _ => by rw [n])
theorem wgt_un {F1 F2 al i j c : Nat} {B1 B : Nat → Int32} {mks : Nat → Nat} (h1 : (wtc F2 i).testBit c = false) (h2 : (wtc F2 j).testBit c = false) (hc : c < pop F2) (h24 : pop F2 ≤ 24) : wgt F1 B1 F2 (swp B i j) al mks c = wgt F1 B1 F2 B al mks c := by
  unfold wtc at h1 h2
  rw [← Bool.not_eq_true, bs_tb] at h1 h2
  have n1 : c ≠ i := fun e => h1 ⟨by omega, .inl e⟩
  have n2 : c ≠ j := fun e => h2 ⟨by omega, .inl e⟩
  unfold wgt
  rw [swp_o n1 n2, nbr_cg (B' := B) (fun k hk ha => swp_o (fun e => h1 ⟨by omega, .inr ⟨hc, by rw [← e]; exact adj_sym.mp ha⟩⟩) (fun e => h2 ⟨by omega, .inr ⟨hc, by rw [← e]; exact adj_sym.mp ha⟩⟩))]
theorem wgt_bd {F1 F2 al c : Nat} {B1 B : Nat → Int32} {mks : Nat → Nat} : -1100 ≤ wgt F1 B1 F2 B al mks c ∧ wgt F1 B1 F2 B al mks c ≤ 1100 := by
  unfold wgt
  split
  · omega
  · have := pop_le (nbr F2 B c &&& nr F1 B1 (B c).toNatClampNeg)
    split <;> omega
theorem btr_w {F1 F2 al : Nat} {B1 B B' : Nat → Int32} {mks : Nat → Nat} (hB : WB B (pop F2)) (hB' : WB B' (pop F2)) (h24 : pop F2 ≤ 24) : btr F1 B1 F2 al mks B B' ↔ sI (wgt F1 B1 F2 B' al mks) (pop F2) - sI (wgt F1 B1 F2 B al mks) (pop F2) < 0 := by
  rw [wgt_sum hB, wgt_sum hB']
  have a := tw_bad (F1 := F1) (B1 := B1) (al := al) (mks := mks) hB h24
  have b := tw_bad (F1 := F1) (B1 := B1) (al := al) (mks := mks) hB' h24
  have c := tw_even (F1 := F1) (B1 := B1) hB
  have e := tw_even (F1 := F1) (B1 := B1) hB'
  unfold btr bdN twN
  omega
theorem phi_ar : ∀ b, b < 25 → ∀ b', b' < b → b' * (48 - b') + 48 < b * (50 - b) := by decide +kernel
theorem phi_lt {F1 F2 al : Nat} {B1 B B' : Nat → Int32} {mks : Nat → Nat} (hB : WB B (pop F2)) (hB' : WB B' (pop F2)) (h24 : pop F2 ≤ 24) (h : btr F1 B1 F2 al mks B B') : phi F1 B1 F2 al mks B' < phi F1 B1 F2 al mks B := by
  have a := tw_bad (F1 := F1) (B1 := B1) (al := al) (mks := mks) hB h24
  have b := tw_bad (F1 := F1) (B1 := B1) (al := al) (mks := mks) hB' h24
  unfold btr bdN twN at h
  unfold phi bdN twN
  obtain ⟨x, ex⟩ : ∃ x, x = pop (badS F1 B1 F2 B al mks) := ⟨_, rfl⟩
  obtain ⟨x', ex'⟩ : ∃ x, x = pop (badS F1 B1 F2 B' al mks) := ⟨_, rfl⟩
  rw [← ex] at a h ⊢
  rw [← ex'] at b h ⊢
  rcases h with h | ⟨h1, h2⟩
  · have := phi_ar x (by omega) x' h
    have e : x * (50 - x) = x * (48 - x) + 2 * x := by rw [show 50 - x = (48 - x) + 2 by omega, Nat.mul_add, Nat.mul_comm x 2]
    omega
  · rw [h1]; omega
theorem phi_le {F1 F2 al : Nat} {B1 B : Nat → Int32} {mks : Nat → Nat} (hB : WB B (pop F2)) (h24 : pop F2 ≤ 24) : phi F1 B1 F2 al mks B ≤ 1000 := by
  have a := tw_bad (F1 := F1) (B1 := B1) (al := al) (mks := mks) hB h24
  have k : ∀ b, b < 25 → b * (48 - b) ≤ 600 := by decide +kernel
  have := k (pop (badS F1 B1 F2 B al mks)) (by omega)
  unfold phi bdN
  omega
theorem tst_iff {F1 F2 al i j : Nat} {B1 B : Nat → Int32} {mks : Nat → Nat} (hj : j < 24) : tstE F1 B1 F2 al mks B (24 * i + j) = true ↔ i < j ∧ j < pop F2 ∧ btr F1 B1 F2 al mks B (swp B i j) := by
  unfold tstE
  rw [show (24 * i + j) / 24 = i by omega, show (24 * i + j) % 24 = j by omega, Bool.and_eq_true, Bool.and_eq_true, decide_eq_true_iff, decide_eq_true_iff, cd_iff, and_assoc]
theorem fp_yes {F1 F2 al : Nat} {B1 B : Nat → Int32} {mks : Nat → Nat} (h : fp F1 B1 F2 al mks B < 576) : fp F1 B1 F2 al mks B / 24 < fp F1 B1 F2 al mks B % 24 ∧ fp F1 B1 F2 al mks B % 24 < pop F2 ∧ btr F1 B1 F2 al mks B (swp B (fp F1 B1 F2 al mks B / 24) (fp F1 B1 F2 al mks B % 24)) := by
  have := fa_first_yes (tstE F1 B1 F2 al mks B) 576 h
  rw [show fa_first (tstE F1 B1 F2 al mks B) 576 = fp F1 B1 F2 al mks B from rfl] at this
  rw [← tst_iff (Nat.mod_lt _ (by decide)), show 24 * (fp F1 B1 F2 al mks B / 24) + fp F1 B1 F2 al mks B % 24 = fp F1 B1 F2 al mks B by omega]
  exact this
theorem fp_is {F1 F2 al k : Nat} {B1 B : Nat → Int32} {mks : Nat → Nat} (hk : k < 576) (h : tstE F1 B1 F2 al mks B k = true) (hn : ∀ k', k' < k → tstE F1 B1 F2 al mks B k' = false) : fp F1 B1 F2 al mks B = k := by
  rcases Nat.lt_trichotomy (fp F1 B1 F2 al mks B) k with z | z | z
  · have := fa_first_yes (tstE F1 B1 F2 al mks B) 576 (show fp F1 B1 F2 al mks B < 576 by omega)
    have n := hn _ z
    rw [show fa_first (tstE F1 B1 F2 al mks B) 576 = fp F1 B1 F2 al mks B from rfl] at this
    rw [this] at n; cases n
  · exact z
  · have := fa_first_no (tstE F1 B1 F2 al mks B) 576 k z
    rw [h] at this; cases this
theorem fp_no {F1 F2 al : Nat} {B1 B : Nat → Int32} {mks : Nat → Nat} (h24 : pop F2 ≤ 24) (hn : ∀ k', k' < 24 * pop F2 → tstE F1 B1 F2 al mks B k' = false) : ¬ fp F1 B1 F2 al mks B < 576 := fun h => by
  obtain ⟨a, b, _⟩ := fp_yes h
  have := fa_first_yes (tstE F1 B1 F2 al mks B) 576 h
  rw [show fa_first (tstE F1 B1 F2 al mks B) 576 = fp F1 B1 F2 al mks B from rfl, hn _ (by omega)] at this
  cases this
theorem swp_cg {f g : Nat → Int32} {n i j : Nat} (hi : i < n) (hj : j < n) (h : ∀ k, k < n → f k = g k) : ∀ k, k < n → swp f i j k = swp g i j k := fun k hk => by
  unfold swp va_up
  rw [h i hi, h j hj, h k hk]
theorem fp_cg {F1 F2 al : Nat} {B1 B B' : Nat → Int32} {mks : Nat → Nat} (h24 : pop F2 ≤ 24) (h : ∀ k, k < 24 → B k = B' k) : fp F1 B1 F2 al mks B = fp F1 B1 F2 al mks B' := by
  have e : ∀ k, tstE F1 B1 F2 al mks B k = tstE F1 B1 F2 al mks B' k := fun k => by
    unfold tstE
    by_cases z : k / 24 < k % 24 ∧ k % 24 < pop F2
    · have a := bdN_cg (F1 := F1) (B1 := B1) (al := al) (mks := mks) (F2 := F2) (B := B) (B' := B') (fun j hj => h j (by omega))
      have b := bdN_cg (F1 := F1) (B1 := B1) (al := al) (mks := mks) (F2 := F2) (B := swp B (k / 24) (k % 24)) (B' := swp B' (k / 24) (k % 24)) (fun j hj => swp_cg (n := 24) (by omega) (by omega) h j (by omega))
      have q : btr F1 B1 F2 al mks B (swp B (k / 24) (k % 24)) = btr F1 B1 F2 al mks B' (swp B' (k / 24) (k % 24)) := by unfold btr; rw [a.1, a.2, b.1, b.2]
      rw [q]
    · have : (decide (k / 24 < k % 24) && decide (k % 24 < pop F2)) = false := by
        rw [← Bool.not_eq_true, Bool.and_eq_true, decide_eq_true_iff, decide_eq_true_iff]; exact z
      rw [this, Bool.false_and, Bool.false_and]
  unfold fp
  rw [show tstE F1 B1 F2 al mks B = tstE F1 B1 F2 al mks B' from funext e]
theorem mnd_cg {F1 F2 al : Nat} {B1 : Nat → Int32} {mks : Nat → Nat} (h24 : pop F2 ≤ 24) : ∀ n (B B' : Nat → Int32), (∀ k, k < 24 → B k = B' k) → ∀ k, k < 24 → mnd F1 B1 F2 al mks n B k = mnd F1 B1 F2 al mks n B' k
  | 0, _, _, h => h
  | n + 1, B, B', h => by
    unfold mnd
    rw [fp_cg h24 h]
    by_cases z : fp F1 B1 F2 al mks B' < 576
    · rw [if_pos z, if_pos z]
      obtain ⟨a, b, _⟩ := fp_yes z
      exact mnd_cg h24 n _ _ (swp_cg (by omega) (by omega) h)
    · rw [if_neg z, if_neg z]; exact h
theorem mnd_WB {F1 F2 al : Nat} {B1 : Nat → Int32} {mks : Nat → Nat} : ∀ n (B : Nat → Int32), WB B (pop F2) → WB (mnd F1 B1 F2 al mks n B) (pop F2)
  | 0, _, h => h
  | n + 1, B, h => by
    unfold mnd
    by_cases z : fp F1 B1 F2 al mks B < 576
    · rw [if_pos z]
      obtain ⟨a, b, _⟩ := fp_yes z
      exact mnd_WB n _ (swp_WB h (by omega) b (by omega))
    · rw [if_neg z]; exact h
