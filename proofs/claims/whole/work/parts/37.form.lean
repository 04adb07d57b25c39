/-! ===== forms: sets of places as numbers below 2^64; the i-th place, the number of a place, who touches whom ===== -/
def num (F p : Nat) : Nat := fb_ct F.testBit p
def pl (F i : Nat) : Nat := fa_first (fun p => F.testBit p && decide (num F p = i)) 64
theorem pl_spec {F i : Nat} (h : i < pop F) : pl F i < 64 ∧ F.testBit (pl F i) = true ∧ num F (pl F i) = i := by
  obtain ⟨p, hp, h1, h2⟩ := fb_ct_kth (p := F.testBit) (n := 64) h
  have hle := fa_first_le (fun p => F.testBit p && decide (num F p = i)) 64
  have hlt : pl F i < 64 := by
    rcases Nat.lt_or_ge (pl F i) 64 with q | q
    · exact q
    · have := fa_first_no (fun p => F.testBit p && decide (num F p = i)) 64 p (by unfold pl at q; omega)
      rw [h1, Bool.true_and] at this
      exact absurd h2 (of_decide_eq_false this)
  have := fa_first_yes (fun p => F.testBit p && decide (num F p = i)) 64 hlt
  rw [Bool.and_eq_true, decide_eq_true_iff] at this
  exact ⟨hlt, this.1, this.2⟩
theorem num_lt {F p : Nat} (hp : p < 64) (h : F.testBit p = true) : num F p < pop F := by
  have h1 : num F (p + 1) = num F p + 1 := by unfold num; rw [fb_ct_succ, if_pos h]
  have h2 : num F (p + 1) ≤ pop F := fb_ct_mono _ (by omega)
  omega
theorem pl_num {F p : Nat} (hp : p < 64) (h : F.testBit p = true) : pl F (num F p) = p := by
  obtain ⟨_, h2, h3⟩ := pl_spec (num_lt hp h)
  exact fb_ct_kth_one h2 h h3
theorem num_mono (F : Nat) {p q : Nat} (h : p ≤ q) : num F p ≤ num F q := fb_ct_mono _ h
theorem pl_lt {F i j : Nat} (hij : i < j) (hj : j < pop F) : pl F i < pl F j := by
  have a := pl_spec (F := F) (i := i) (by omega)
  have b := pl_spec hj
  rcases Nat.lt_or_ge (pl F i) (pl F j) with q | q
  · exact q
  · have := num_mono F q; omega
theorem pl_inj {F i j : Nat} (hi : i < pop F) (hj : j < pop F) (e : pl F i = pl F j) : i = j := by
  rw [← (pl_spec hi).2.2, ← (pl_spec hj).2.2, e]
theorem pl_ltI {F i j : Nat} (hi : i < pop F) (hj : j < pop F) : pl F i < pl F j ↔ i < j := by
  constructor
  · intro h
    rcases Nat.lt_trichotomy i j with q | q | q
    · exact q
    · subst q; omega
    · have := pl_lt q hi; omega
  · exact fun h => pl_lt h hj
/-- the place beside p: right, left, above, below -/
def nbp (p : Nat) : Nat → Option Nat
  | 0 => if p % 8 < 7 then some (p + 1) else none
  | 1 => if 0 < p % 8 then some (p - 1) else none
  | 2 => if p + 8 < 64 then some (p + 8) else none
  | 3 => if 8 ≤ p then some (p - 8) else none
  | _ => none
def adj (p q : Nat) : Prop := (q = p + 1 ∧ p % 8 < 7) ∨ (p = q + 1 ∧ q % 8 < 7) ∨ q = p + 8 ∨ p = q + 8
theorem adj_sym {p q : Nat} : adj p q ↔ adj q p := by unfold adj; omega
theorem adj_irr {p : Nat} : ¬ adj p p := by unfold adj; omega
theorem nbp_adj {p q s : Nat} (hp : p < 64) (h : nbp p s = some q) : q < 64 ∧ adj p q := by
  unfold adj
  match s with
  | 0 => simp only [nbp] at h; split at h <;> simp at h; omega
  | 1 => simp only [nbp] at h; split at h <;> simp at h; omega
  | 2 => simp only [nbp] at h; split at h <;> simp at h; omega
  | 3 => simp only [nbp] at h; split at h <;> simp at h; omega
  | s + 4 => simp [nbp] at h
theorem adj_nbp {p q : Nat} (hp : p < 64) (hq : q < 64) (h : adj p q) : ∃ s, s < 4 ∧ nbp p s = some q := by
  unfold adj at h
  rcases h with ⟨h1, h2⟩ | ⟨h1, h2⟩ | h | h
  · exact ⟨0, by omega, by simp only [nbp]; rw [if_pos h2, h1]⟩
  · exact ⟨1, by omega, by simp only [nbp]; rw [if_pos (by omega)]; congr 1; omega⟩
  · exact ⟨2, by omega, by simp only [nbp]; rw [if_pos (by omega), h]⟩
  · exact ⟨3, by omega, by simp only [nbp]; rw [if_pos (by omega)]; congr 1; omega⟩
def atF (F : Nat) (o : Option Nat) : Int32 := match o with
  | some q => if F.testBit q = true then nI (num F q) else -1
  | none => -1
def tch (F i s : Nat) : Int32 := atF F (nbp (pl F i) s)
theorem tch_in {F i s : Nat} (hi : i < pop F) : tch F i s = -1 ∨ ∃ j, j < pop F ∧ tch F i s = nI j ∧ adj (pl F i) (pl F j) ∧ nbp (pl F i) s = some (pl F j) := by
  unfold tch
  cases e : nbp (pl F i) s with
  | none => exact .inl rfl
  | some q =>
    obtain ⟨h1, h2⟩ := nbp_adj (pl_spec hi).1 e
    unfold atF
    by_cases h : F.testBit q = true
    · refine .inr ⟨num F q, num_lt h1 h, by simp [h], ?_, ?_⟩
      · rw [pl_num h1 h]; exact h2
      · rw [pl_num h1 h]
    · exact .inl (by simp [h])
theorem tch_of {F i j s : Nat} (hj : j < pop F) (h : nbp (pl F i) s = some (pl F j)) : tch F i s = nI j := by
  unfold tch
  rw [h]
  have a := pl_spec hj
  simp only [atF]
  rw [if_pos a.2.1, a.2.2]
theorem adj_tch {F i j : Nat} (hi : i < pop F) (hj : j < pop F) (h : adj (pl F i) (pl F j)) : ∃ s, s < 4 ∧ tch F i s = nI j := by
  obtain ⟨s, hs, e⟩ := adj_nbp (pl_spec hi).1 (pl_spec hj).1 h
  exact ⟨s, hs, tch_of hj e⟩
theorem tch_no {F i s : Nat} (h : ∀ j, j < pop F → nbp (pl F i) s ≠ some (pl F j)) (hi : i < pop F) : tch F i s = -1 := by
  rcases tch_in (s := s) hi with q | ⟨j, hj, _, _, q⟩
  · exact q
  · exact absurd q (h j hj)
/-- bricks in n cells: none, or a brick, each once -/
def WB (B : Nat → Int32) (n : Nat) : Prop := (∀ i, i < n → B i = -1 ∨ ∃ b, b < 24 ∧ B i = nI b) ∧ (∀ i j, i < n → j < n → B i = B j → B i ≠ -1 → i = j) ∧ (∀ i, n ≤ i → i < 24 → B i = -1)
theorem WB_e (n : Nat) : WB (fun _ => -1) n := ⟨fun _ _ => .inl rfl, fun _ _ _ _ _ h => absurd rfl h, fun _ _ _ => rfl⟩
theorem nI_ne {b : Nat} (h : b < 2 ^ 31) : nI b ≠ -1 := fun e => by have := q_em h; rw [e] at this; simp at this
theorem nI_inj {a b : Nat} (ha : a < 2 ^ 31) (hb : b < 2 ^ 31) (h : nI a = nI b) : a = b := (nI_eq ha hb).mp h
/-- who lies beside the i-th cell; who lies beside brick b; which bricks there are -/
noncomputable def nbr (F : Nat) (B : Nat → Int32) (i : Nat) : Nat := bs (fun c => ∃ j, j < pop F ∧ adj (pl F i) (pl F j) ∧ B j = nI c)
noncomputable def nr (F : Nat) (B : Nat → Int32) (b : Nat) : Nat := bs (fun c => ∃ i j, i < pop F ∧ j < pop F ∧ B i = nI b ∧ adj (pl F i) (pl F j) ∧ B j = nI c)
noncomputable def ins (F : Nat) (B : Nat → Int32) : Nat := bs (fun c => ∃ i, i < pop F ∧ B i = nI c)
theorem nr_at {F : Nat} {B : Nat → Int32} {i b : Nat} (hB : WB B (pop F)) (hi : i < pop F) (hb : b < 24) (e : B i = nI b) : nr F B b = nbr F B i := by
  apply bs_ext
  intro c hc
  constructor
  · rintro ⟨i', j, h1, h2, h3, h4, h5⟩
    have : i' = i := hB.2.1 i' i h1 hi (h3.trans e.symm) (by rw [h3]; exact nI_ne (by omega))
    subst this
    exact ⟨j, h2, h4, h5⟩
  · rintro ⟨j, h2, h4, h5⟩
    exact ⟨i, j, hi, h2, e, h4, h5⟩
theorem nr_no {F : Nat} {B : Nat → Int32} {b : Nat} (h : ∀ i, i < pop F → B i ≠ nI b) : nr F B b = 0 := bs_0 (fun c _ => by
  rintro ⟨i, j, h1, h2, h3, h4, h5⟩
  exact h i h1 h3)
theorem nr_sym {F : Nat} {B : Nat → Int32} {b c : Nat} (hb : b < 24) (hc : c < 24) : (nr F B b).testBit c = (nr F B c).testBit b := by
  rw [Bool.eq_iff_iff]
  unfold nr
  rw [bs_tb, bs_tb]
  constructor
  · rintro ⟨_, i, j, h1, h2, h3, h4, h5⟩; exact ⟨hb, j, i, h2, h1, h5, adj_sym.mp h4, h3⟩
  · rintro ⟨_, i, j, h1, h2, h3, h4, h5⟩; exact ⟨hc, j, i, h2, h1, h5, adj_sym.mp h4, h3⟩
