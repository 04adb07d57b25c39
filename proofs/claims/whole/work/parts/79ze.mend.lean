/-! ===== mending: what both do ===== -/
def sI (f : Nat → Int) : Nat → Int
  | 0 => 0
  | n + 1 => sI f n + f n
theorem sI_sub {f g : Nat → Int} : ∀ n, sI (fun k => f k - g k) n = sI f n - sI g n
  | 0 => rfl
  | n + 1 => by unfold sI; rw [sI_sub n]; omega
theorem sI_cong {f g : Nat → Int} : ∀ n, (∀ k, k < n → f k = g k) → sI f n = sI g n
  | 0, _ => rfl
  | n + 1, h => by unfold sI; rw [sI_cong n (fun k hk => h k (by omega)), h n (by omega)]
theorem sI_bd {f : Nat → Int} {c : Int} (hc : 0 ≤ c) : ∀ n : Nat, (∀ k, k < n → -c ≤ f k ∧ f k ≤ c) → -(n * c) ≤ sI f n ∧ sI f n ≤ n * c
  | 0, _ => by unfold sI; simp
  | n + 1, h => by
    obtain ⟨a, b⟩ := sI_bd hc n (fun k hk => h k (by omega))
    obtain ⟨x, y⟩ := h n (by omega)
    unfold sI
    have e : ((n + 1 : Nat) : Int) * c = n * c + c := by rw [Int.natCast_add, Int.add_mul]; simp
    rw [e]
    omega
theorem sm_even {P : Nat → Nat → Bool} (hs : ∀ a b, P a b = P b a) (hi : ∀ a, P a a = false) : ∀ n, fb_sm (fun b => fb_ct (P b) n) n % 2 = 0
  | 0 => rfl
  | n + 1 => by
    have ih := sm_even hs hi n
    have e1 : fb_sm (fun b => fb_ct (P b) (n + 1)) n = fb_sm (fun b => fb_ct (P b) n) n + fb_sm (fun b => if P b n = true then 1 else 0) n := by
      rw [← fb_sm_add]; rfl
    have e2 : ∀ m, fb_sm (fun b => if P b n = true then 1 else 0) m = fb_ct (P n) m := fun m => by
      induction m with
      | zero => rfl
      | succ m ih => rw [fb_sm_succ, fb_ct_succ, ih, hs m n]
    rw [fb_sm_succ, e1, e2, fb_ct_succ, hi]
    simp only [Bool.false_eq_true, if_false]
    omega
theorem ct_img {v : Nat → Int32} {n : Nat} (hn : n ≤ 24) : ∀ k, fb_ct (fun c => cd (∃ s, s < k ∧ v s = nI c)) n ≤ k
  | 0 => by rw [fb_ct_zero.mpr (fun c _ => cd_f.mpr (by rintro ⟨s, h, _⟩; omega))]; exact Nat.le_refl _
  | k + 1 => by
    have ih := ct_img (v := v) hn k
    have s1 : fb_ct (fun c => cd (∃ s, s < k + 1 ∧ v s = nI c)) n ≤ fb_ct (fun c => cd (∃ s, s < k ∧ v s = nI c) || (cd (v k = nI c) && !cd (∃ s, s < k ∧ v s = nI c))) n := fb_ct_sub (fun c _ h => by
      rw [cd_iff] at h
      obtain ⟨s, h1, h2⟩ := h
      cases z : cd (∃ s, s < k ∧ v s = nI c) with
      | true => rfl
      | false =>
        rw [cd_f] at z
        have : s = k := by
          rcases Nat.lt_or_ge s k with q | q
          · exact absurd ⟨s, q, h2⟩ z
          · omega
        subst this
        rw [cd_iff.mpr h2]; rfl)
    rw [fb_ct_or (fun c _ h => by rw [Bool.and_eq_true] at h; rw [h.1] at h; simp at h)] at s1
    have s2 : fb_ct (fun c => cd (v k = nI c) && !cd (∃ s, s < k ∧ v s = nI c)) n ≤ fb_ct (fun c => cd (v k = nI c)) n := fb_ct_sub (fun c _ h => by rw [Bool.and_eq_true] at h; exact h.1)
    have s3 : fb_ct (fun c => cd (v k = nI c)) n ≤ 1 := by
      by_cases z : ∃ c0, c0 < n ∧ v k = nI c0
      · obtain ⟨c0, h0, e0⟩ := z
        have := ct_add (p := fun _ => false) (i := c0) (n := n) h0 rfl
        rw [fb_ct_zero.mpr (fun _ _ => rfl)] at this
        rw [fb_ct_cong (q := fun k => if k = c0 then true else false) (fun c hc => ?_), this]
        · exact Nat.le_refl _
        · by_cases y : c = c0
          · subst y; rw [if_pos rfl]; exact cd_iff.mpr e0
          · rw [if_neg y]
            exact cd_f.mpr (fun q => y (nI_inj (by omega) (by omega) (q.symm.trans e0)))
      · rw [fb_ct_zero.mpr (fun c hc => cd_f.mpr (fun q => z ⟨c, hc, q⟩))]; omega
    omega
theorem nbr_4 {F i : Nat} {B : Nat → Int32} (hi : i < pop F) (h24 : pop F ≤ 24) : pop (nbr F B i) ≤ 4 := by
  rw [pop24 (nbr_lt F B i)]
  refine Nat.le_trans (fb_ct_sub (q := fun c => cd (∃ s, s < 4 ∧ brI B (pop F) (tch F i s) = nI c)) (fun c hc h => ?_)) (ct_img (v := fun s => brI B (pop F) (tch F i s)) (Nat.le_refl 24) 4)
  unfold nbr at h
  rw [bs_tb] at h
  obtain ⟨_, j, hj, ha, e⟩ := h
  obtain ⟨s, hs, es⟩ := adj_tch hi hj ha
  rw [cd_iff]
  exact ⟨s, hs, by rw [es, brI_in hj (by omega)]; exact e⟩
theorem pop_and {x y : Nat} (hx : x < 2 ^ 24) : pop (x &&& y) ≤ pop x := by
  rw [pop24 hx, pop24 (and_lt24 hx)]
  exact fb_ct_sub (fun k _ h => by rw [Nat.testBit_and, Bool.and_eq_true] at h; exact h.1)
theorem nr_4 {F b : Nat} {B : Nat → Int32} (hB : WB B (pop F)) (h24 : pop F ≤ 24) (hb : b < 24) : pop (nr F B b) ≤ 4 := by
  by_cases z : ∃ i, i < pop F ∧ B i = nI b
  · obtain ⟨i, hi, e⟩ := z
    rw [nr_at hB hi hb e]; exact nbr_4 hi h24
  · rw [nr_no (fun i hi e => z ⟨i, hi, e⟩), pop_0]; omega
theorem ct_ind {p : Nat → Bool} {c : Nat} : ∀ n, fb_sm (fun b => if p b = true then c else 0) n = c * fb_ct p n
  | 0 => by rfl
  | n + 1 => by
    rw [fb_sm_succ, fb_ct_succ, ct_ind n, Nat.mul_add]
    cases p n <;> simp
theorem tw_bad {F1 F2 al : Nat} {B1 B2 : Nat → Int32} {mks : Nat → Nat} (hB : WB B2 (pop F2)) (h24 : pop F2 ≤ 24) : twi F1 B1 F2 B2 + 4 * pop (badS F1 B1 F2 B2 al mks) ≤ 96 := by
  have e : 4 * pop (badS F1 B1 F2 B2 al mks) = fb_sm (fun b => if (badS F1 B1 F2 B2 al mks).testBit b = true then 4 else 0) 24 := by
    rw [ct_ind, pop24 (show badS F1 B1 F2 B2 al mks < 2 ^ 24 from bs_lt _)]
  rw [e]
  unfold twi
  rw [← fb_sm_add]
  refine fb_sm_bound (c := 4) (n := 24) (fun b hb => ?_)
  by_cases z : (badS F1 B1 F2 B2 al mks).testBit b = true
  · rw [if_pos z]
    unfold badS at z
    rw [bs_tb] at z
    have : nr F2 B2 b &&& nr F1 B1 b = 0 := Classical.byContradiction (fun q => z.2.2 (.inl q))
    rw [this, pop_0]; omega
  · rw [if_neg z]
    have := pop_and (x := nr F2 B2 b) (y := nr F1 B1 b) (nr_lt F2 B2 b)
    have := nr_4 hB h24 hb
    omega
theorem tw_even {F1 F2 : Nat} {B1 B2 : Nat → Int32} (hB : WB B2 (pop F2)) : twi F1 B1 F2 B2 % 2 = 0 := by
  have e : twi F1 B1 F2 B2 = fb_sm (fun b => fb_ct (fun c => decide (b < 24) && decide (c < 24) && (nr F2 B2 b).testBit c && (nr F1 B1 b).testBit c) 24) 24 := by
    unfold twi
    refine fb_sm_cong (fun b hb => ?_)
    rw [pop24 (and_lt24 (nr_lt F2 B2 b))]
    refine fb_ct_cong (fun c hc => ?_)
    rw [Nat.testBit_and, decide_eq_true hb, decide_eq_true hc]; rfl
  rw [e]
  refine sm_even (P := fun b c => decide (b < 24) && decide (c < 24) && (nr F2 B2 b).testBit c && (nr F1 B1 b).testBit c) (fun a b => ?_) (fun a => ?_) 24
  · by_cases ha : a < 24
    · by_cases hb : b < 24
      · rw [nr_sym (F := F2) (B := B2) ha hb, nr_sym (F := F1) (B := B1) ha hb, decide_eq_true ha, decide_eq_true hb]
      · rw [decide_eq_false hb]; simp
    · rw [decide_eq_false ha]; simp
  · by_cases ha : a < 24
    · have : (nr F2 B2 a).testBit a = false := by
        rw [← Bool.not_eq_true]
        unfold nr
        rw [bs_tb]
        rintro ⟨_, i, j, h1, h2, h3, h4, h5⟩
        have : i = j := hB.2.1 i j h1 h2 (h3.trans h5.symm) (by rw [h3]; exact nI_ne (by omega))
        subst this
        exact adj_irr h4
      rw [this]; simp
    · rw [decide_eq_false ha]; simp
theorem wgt_sum {F1 F2 al : Nat} {B1 B2 : Nat → Int32} {mks : Nat → Nat} (hB : WB B2 (pop F2)) : sI (wgt F1 B1 F2 B2 al mks) (pop F2) = 1024 * (pop (badS F1 B1 F2 B2 al mks) : Int) - (twi F1 B1 F2 B2 : Int) := by
  have st : ∀ n, n ≤ pop F2 → sI (wgt F1 B1 F2 B2 al mks) n = 1024 * (fb_sm (fun i => if B2 i = -1 then 0 else (fun b => if cd (hasO al mks (nr F2 B2 b) (nr F1 B1 b)) = true then 0 else 1) (B2 i).toNatClampNeg) n : Nat) - (twP F1 B1 F2 B2 n : Nat) := by
    intro n
    induction n with
    | zero => intro _; rfl
    | succ n ih =>
      intro hn
      unfold sI twP
      rw [ih (by omega), fb_sm_succ, fb_sm_succ]
      unfold twP wgt
      rcases hB.1 n (by omega) with z | ⟨b, hb, z⟩
      · rw [if_pos z, if_pos z, if_pos z]; omega
      · have nz : ¬ B2 n = -1 := by rw [z]; exact nI_ne (by omega)
        have tb : (B2 n).toNatClampNeg = b := by rw [z]; exact q_cl (by omega)
        rw [if_neg nz, if_neg nz, if_neg nz, tb, ← nr_at hB (by omega) hb z]
        dsimp only
        split <;> omega
  rw [st _ (Nat.le_refl _), twP_all hB, reidx (fun b => if cd (hasO al mks (nr F2 B2 b) (nr F1 B1 b)) = true then 0 else 1) (pop F2) hB.1 hB.2.1]
  have e : fb_sm (fun b => if cd (∃ i, i < pop F2 ∧ B2 i = nI b) = true then (fun b => if cd (hasO al mks (nr F2 B2 b) (nr F1 B1 b)) = true then 0 else 1) b else 0) 24 = pop (badS F1 B1 F2 B2 al mks) := by
    rw [pop24 (show badS F1 B1 F2 B2 al mks < 2 ^ 24 from bs_lt _), ← Nat.one_mul (fb_ct _ 24), ← ct_ind]
    refine fb_sm_cong (fun b hb => ?_)
    dsimp only
    by_cases z : (badS F1 B1 F2 B2 al mks).testBit b = true
    · rw [if_pos z]
      unfold badS at z
      rw [bs_tb] at z
      rw [if_pos (cd_iff.mpr z.2.1), if_neg (by rw [cd_iff]; exact z.2.2)]
    · rw [if_neg z]
      unfold badS at z
      rw [bs_tb] at z
      by_cases y : ∃ i, i < pop F2 ∧ B2 i = nI b
      · rw [if_pos (cd_iff.mpr y), if_pos (cd_iff.mpr (Classical.byContradiction (fun q => z ⟨hb, y, q⟩)))]
      · rw [if_neg (by rw [cd_iff]; exact y)]
  rw [e]
