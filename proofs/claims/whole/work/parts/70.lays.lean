/-! ===== layings: one fold over the orders of the bricks, which both follow ===== -/
/-- fewest bad (25: none yet), kept of the best, most kept, good ones, the best laying -/
abbrev LyS := Nat × Nat × Nat × Int32 × (Nat → Int32)
def nst (be bd kp : Nat) (B : Nat → Int32) (s : LyS) : LyS := (if bd < s.1 ∨ (bd = s.1 ∧ s.2.1 < kp) then bd else s.1, if bd < s.1 ∨ (bd = s.1 ∧ s.2.1 < kp) then kp else s.2.1, if s.2.2.1 < kp then kp else s.2.2.1, if bd ≤ be then s.2.2.2.1 + nI 1 else s.2.2.2.1, if bd < s.1 ∨ (bd = s.1 ∧ s.2.1 < kp) then B else s.2.2.2.2)
def fB {S : Type} (g : Nat → S → S) : Nat → S → S
  | 0, s => s
  | b + 1, s => g b (fB g b s)
theorem fB_cong {S : Type} {g g' : Nat → S → S} : ∀ m, (∀ b, b < m → ∀ s, g b s = g' b s) → ∀ s, fB g m s = fB g' m s
  | 0, _, _ => rfl
  | m + 1, h, s => by
    unfold fB
    rw [fB_cong m (fun b hb => h b (by omega)), h m (by omega)]
theorem fB_kth {S : Type} {p : Nat → Bool} {N : Nat} {h : Nat → S → S} : ∀ m, m ≤ N → ∀ s, fB (fun j s => h (kth p N j) s) (fb_ct p m) s = fB (fun b s => if p b = true then h b s else s) m s
  | 0, _, _ => rfl
  | m + 1, hm, s => by
    rw [fb_ct_succ]
    by_cases z : p m = true
    · rw [if_pos z, fB, fB, if_pos z, fB_kth m (by omega), kth_ct (by omega) z]
    · rw [if_neg z, Nat.add_zero, fB, if_neg z, fB_kth m (by omega)]
noncomputable def wo (L b : Nat) : Nat := bs (fun x => L.testBit x = true ∧ x ≠ b)
noncomputable def allT (f : (Nat → Int32) → LyS → LyS) : Nat → Nat → Nat → (Nat → Int32) → LyS → LyS
  | 0, _, _, B, s => f B s
  | k + 1, c, L, B, s => fB (fun b s => if L.testBit b = true then allT f k (c + 1) (wo L b) (va_up B c (nI b)) s else s) 24 s
noncomputable def fL (be F1 : Nat) (B1 : Nat → Int32) (FS al : Nat) (mks : Nat → Nat) (B : Nat → Int32) (s : LyS) : LyS := nst be (pop (badS F1 B1 FS B al mks)) (twi F1 B1 FS B / 2) B s
/-- the cells before c are laid with bricks that aren't left -/
def Lay (c L : Nat) (B : Nat → Int32) : Prop := (∀ i, i < c → ∃ b, b < 24 ∧ B i = nI b ∧ L.testBit b = false) ∧ (∀ i j, i < c → j < c → B i = B j → i = j)
theorem Lay_s {c L b : Nat} {B : Nat → Int32} (h : Lay c L B) (hb : b < 24) (hL : L.testBit b = true) : Lay (c + 1) (wo L b) (va_up B c (nI b)) := by
  obtain ⟨h1, h2⟩ := h
  have hw : ∀ x, (wo L b).testBit x = true ↔ x < 24 ∧ L.testBit x = true ∧ x ≠ b := fun x => by unfold wo; rw [bs_tb]
  have hf : ∀ x, L.testBit x = false → (wo L b).testBit x = false := fun x hx => by
    rw [← Bool.not_eq_true, hw]; rintro ⟨_, q, _⟩; rw [hx] at q; cases q
  refine ⟨fun i hi => ?_, fun i j hi hj e => ?_⟩
  · by_cases z : i = c
    · subst z
      refine ⟨b, hb, vu_eq, ?_⟩
      rw [← Bool.not_eq_true, hw]; exact fun q => q.2.2 rfl
    · obtain ⟨x, x1, x2, x3⟩ := h1 i (by omega)
      exact ⟨x, x1, by rw [vu_ne z]; exact x2, hf x x3⟩
  · by_cases z : i = c
    · by_cases z' : j = c
      · omega
      · subst z
        rw [vu_eq, vu_ne z'] at e
        obtain ⟨x, x1, x2, x3⟩ := h1 j (by omega)
        rw [x2] at e
        rw [← nI_inj (by omega) (by omega) e, hL] at x3; cases x3
    · by_cases z' : j = c
      · subst z'
        rw [vu_eq, vu_ne z] at e
        obtain ⟨x, x1, x2, x3⟩ := h1 i (by omega)
        rw [x2] at e
        rw [nI_inj (by omega) (by omega) e, hL] at x3; cases x3
      · rw [vu_ne z, vu_ne z'] at e
        exact h2 i j (by omega) (by omega) e
theorem Lay_WB {n L : Nat} {B B' : Nat → Int32} (h : Lay n L B) (hB : ∀ i, i < n → B' i = B i) (hn : ∀ i, n ≤ i → i < 24 → B' i = -1) : WB B' n := by
  obtain ⟨h1, h2⟩ := h
  refine ⟨fun i hi => ?_, fun i j hi hj e _ => ?_, hn⟩
  · obtain ⟨b, b1, b2, _⟩ := h1 i hi
    exact .inr ⟨b, b1, by rw [hB i hi]; exact b2⟩
  · rw [hB i hi, hB j hj] at e; exact h2 i j hi hj e
theorem bad_le {F1 FS al : Nat} {B1 B : Nat → Int32} {mks : Nat → Nat} : pop (badS F1 B1 FS B al mks) ≤ 24 := by
  rw [pop24 (by unfold badS; exact bs_lt _)]; exact fb_ct_le _ 24
theorem twi_l8 {F1 FS : Nat} {B1 B : Nat → Int32} : twi F1 B1 FS B / 2 ≤ 800 := by
  have : twi F1 B1 FS B ≤ 24 * 64 := fb_sm_bound (fun _ _ => pop_le _)
  omega
theorem nst_b {be bd kp : Nat} {B : Nat → Int32} {s : LyS} (hb : bd ≤ 24) : (nst be bd kp B s).1 ≤ 24 := by
  unfold nst
  dsimp only
  split <;> omega
theorem nst_m {be bd kp : Nat} {B : Nat → Int32} {s : LyS} : (nst be bd kp B s).1 ≤ s.1 := by
  unfold nst
  dsimp only
  split <;> omega
theorem fB_le {g : Nat → LyS → LyS} (h : ∀ b s, (g b s).1 ≤ s.1) : ∀ m s, (fB g m s).1 ≤ s.1
  | 0, _ => Nat.le_refl _
  | m + 1, s => Nat.le_trans (h m _) (fB_le h m s)
theorem fB_at {g : Nat → LyS → LyS} {b : Nat} (h : ∀ b s, (g b s).1 ≤ s.1) (hb : ∀ s, (g b s).1 ≤ 24) : ∀ m, b < m → ∀ s, (fB g m s).1 ≤ 24
  | 0, z, _ => by omega
  | m + 1, z, s => by
    by_cases e : b = m
    · subst e; exact hb _
    · exact Nat.le_trans (h m _) (fB_at h hb m (by omega) s)
theorem allT_m {f : (Nat → Int32) → LyS → LyS} (hf : ∀ B s, (f B s).1 ≤ s.1) : ∀ k c L B s, (allT f k c L B s).1 ≤ s.1
  | 0, c, L, B, s => hf B s
  | k + 1, c, L, B, s => by
    rw [allT]
    refine fB_le (fun b s => ?_) 24 s
    split
    · exact allT_m hf k _ _ _ s
    · exact Nat.le_refl _
theorem wo_pop {L b : Nat} (hL : L < 2 ^ 24) (h : L.testBit b = true) : pop L = pop (wo L b) + 1 := by
  have hb := tb_lt hL h
  rw [pop24 hL, pop24 (by unfold wo; exact bs_lt _)]
  have u := fb_ct_upd L.testBit false hb
  rw [if_pos h, if_neg (by simp)] at u
  rw [← Nat.add_zero (fb_ct L.testBit 24), ← u]
  congr 1
  refine fb_ct_cong (fun k hk => ?_)
  unfold wo
  rw [Bool.eq_iff_iff, bs_tb]
  by_cases e : k = b
  · rw [if_pos e]; exact ⟨fun q => Bool.noConfusion q, fun q => absurd e q.2.2⟩
  · rw [if_neg e]; exact ⟨fun q => ⟨hk, q, e⟩, fun q => q.2.1⟩
theorem allT_b {f : (Nat → Int32) → LyS → LyS} (hf : ∀ B s, (f B s).1 ≤ s.1) (hf2 : ∀ B s, (f B s).1 ≤ 24) : ∀ k c L B s, L < 2 ^ 24 → k ≤ pop L → (allT f k c L B s).1 ≤ 24
  | 0, c, L, B, s, _, _ => hf2 B s
  | k + 1, c, L, B, s, hL, hk => by
    rw [allT]
    obtain ⟨b, hb⟩ : ∃ b, L.testBit b = true := Classical.byContradiction (fun z => by
      have : L = 0 := by
        apply nat_ext; intro i
        rw [Nat.zero_testBit]
        exact ⟨fun q => absurd ⟨i, q⟩ z, fun q => by cases q⟩
      rw [this, pop_0] at hk; omega)
    refine fB_at (b := b) (fun b s => ?_) (fun s => ?_) 24 (tb_lt hL hb) s
    · split
      · exact allT_m hf k _ _ _ s
      · exact Nat.le_refl _
    · rw [if_pos hb]
      have := wo_pop hL hb
      exact allT_b hf hf2 k _ _ _ s (bs_lt _) (by omega)
