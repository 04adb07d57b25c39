/-! ===== two bricks meet ===== -/
/-- from now on b and c have met, if they hadn't -/
def mt1 (fi : Nat → Nat → Int32) (y : Int32) (b c : Nat) : Nat → Nat → Int32 := fun p q => if fi b c = -1 ∧ ((p = b ∧ q = c) ∨ (p = c ∧ q = b)) then y else fi p q
def fiOk (fi : Nat → Nat → Int32) : Prop := (∀ b c, b < 24 → c < 24 → fi b c = fi c b) ∧ ∀ b, b < 24 → fi b b = -1
theorem mt1_no {fi : Nat → Nat → Int32} {y : Int32} {b c : Nat} (h : ¬ fi b c = -1) : mt1 fi y b c = fi := by
  funext p q; unfold mt1; rw [if_neg (fun z => h z.1)]
theorem mt1_ok {fi : Nat → Nat → Int32} {y : Int32} {b c : Nat} (h : fiOk fi) (hbc : b ≠ c) : fiOk (mt1 fi y b c) := by
  refine ⟨fun p q hp hq => ?_, fun p hp => ?_⟩
  · unfold mt1
    by_cases z : fi b c = -1 ∧ ((p = b ∧ q = c) ∨ (p = c ∧ q = b))
    · rw [if_pos z, if_pos ⟨z.1, by omega⟩]
    · rw [if_neg z, if_neg (fun w => z ⟨w.1, by omega⟩)]; exact h.1 p q hp hq
  · unfold mt1; rw [if_neg (by omega)]; exact h.2 p hp
theorem mtS_pop {fi : Nat → Nat → Int32} {p : Nat} : pop (mtS fi p) = fb_ct (fun k => decide (fi p k ≠ -1)) 24 := by
  unfold mtS
  rw [pop_bs]
  exact fb_ct_cong (fun k _ => by rw [Bool.eq_iff_iff, cd_iff, decide_eq_true_iff])
theorem met_ev {fi : Nat → Nat → Int32} : fb_sm (fun b => pop (mtS fi b)) 24 = fb_sm (fun b => fb_ct (fun k => decide (fi b k ≠ -1)) 24) 24 := fb_sm_cong (fun b _ => mtS_pop)
theorem mt1_sum {fi : Nat → Nat → Int32} {y : Int32} {b c : Nat} (hok : fiOk fi) (hb : b < 24) (hc : c < 24) (hbc : b ≠ c) (h : fi b c = -1) (hy : y ≠ -1) : metN (mt1 fi y b c) = metN fi + 1 := by
  unfold metN
  have hcb : fi c b = -1 := by rw [hok.1 c b hc hb]; exact h
  -- row p grows by one where p is b or c
  have row : ∀ p, p < 24 → pop (mtS (mt1 fi y b c) p) = pop (mtS fi p) + (if p = b then 1 else 0) + (if p = c then 1 else 0) := fun p hp => by
    rw [mtS_pop, mtS_pop]
    have upd : ∀ x, x < 24 → fi p x = -1 → (∀ q, q < 24 → mt1 fi y b c p q = if q = x then y else fi p q) → fb_ct (fun k => decide (mt1 fi y b c p k ≠ -1)) 24 = fb_ct (fun k => decide (fi p k ≠ -1)) 24 + 1 := fun x hx hf hq => by
      have u := fb_ct_upd (fun k => decide (fi p k ≠ -1)) true hx
      rw [if_neg (by rw [hf]; decide), if_pos rfl, Nat.add_zero] at u
      rw [← u]
      refine fb_ct_cong (fun k hk => ?_)
      rw [hq k hk]
      by_cases z : k = x
      · rw [if_pos z, if_pos z]; exact decide_eq_true hy
      · rw [if_neg z, if_neg z]
    by_cases z1 : p = b
    · rw [if_pos z1, if_neg (by omega), Nat.add_zero]
      exact upd c hc (by rw [z1]; exact h) (fun q hq => by
        unfold mt1
        by_cases w : q = c
        · rw [if_pos ⟨h, .inl ⟨z1, w⟩⟩, if_pos w]
        · rw [if_neg (by omega), if_neg w])
    · rw [if_neg z1, Nat.add_zero]
      by_cases z2 : p = c
      · rw [if_pos z2]
        exact upd b hb (by rw [z2]; exact hcb) (fun q hq => by
          unfold mt1
          by_cases w : q = b
          · rw [if_pos ⟨h, .inr ⟨z2, w⟩⟩, if_pos w]
          · rw [if_neg (by omega), if_neg w])
      · rw [if_neg z2, Nat.add_zero]
        exact fb_ct_cong (fun k hk => by
          have : mt1 fi y b c p k = fi p k := by unfold mt1; rw [if_neg (by omega)]
          rw [this])
  have one : ∀ x, x < 24 → fb_sm (fun p => if p = x then 1 else 0) 24 = 1 := by decide
  have s : fb_sm (fun p => pop (mtS (mt1 fi y b c) p)) 24 = fb_sm (fun p => pop (mtS fi p)) 24 + 2 := by
    rw [fb_sm_cong (g := fun p => (pop (mtS fi p) + (if p = b then 1 else 0)) + (if p = c then 1 else 0)) row, fb_sm_add (fun p => pop (mtS fi p) + (if p = b then 1 else 0)) (fun p => if p = c then 1 else 0), fb_sm_add, one b hb, one c hc]
  rw [s]
  omega
