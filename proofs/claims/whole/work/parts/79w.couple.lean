/-! ===== pairs: one walk over the cells ===== -/
/-- the first later free neighbour of a cell -/
noncomputable def fnx (F : Nat) (mem : Nat → Bool) (mt : Nat → Nat) (i : Nat) : Nat := fa_first (fun j => decide (i < j) && mem j && decide (mt j = 0) && cd (adj (pl F i) (pl F j))) (pop F)
noncomputable def stpM (F : Nat) (mem : Nat → Bool) (i : Nat) (mt : Nat → Nat) : Nat → Nat := if mt i = 0 ∧ fnx F mem mt i < pop F then va_up (va_up mt i (fnx F mem mt i + 1)) (fnx F mem mt i) (i + 1) else mt
/-- the mates (0: none, j + 1: cell j) when the cells before n have been treated -/
noncomputable def cw (F : Nat) (mem : Nat → Bool) (n : Nat) : Nat → Nat := fB (fun i s => if mem i = true then stpM F mem i s else s) n (fun _ => 0)
theorem fnx_iff {F : Nat} {mem : Nat → Bool} {mt : Nat → Nat} {i j : Nat} : (decide (i < j) && mem j && decide (mt j = 0) && cd (adj (pl F i) (pl F j))) = true ↔ i < j ∧ mem j = true ∧ mt j = 0 ∧ adj (pl F i) (pl F j) := by
  rw [Bool.and_eq_true, Bool.and_eq_true, Bool.and_eq_true, decide_eq_true_iff, decide_eq_true_iff, cd_iff, and_assoc, and_assoc]
theorem fnx_yes {F : Nat} {mem : Nat → Bool} {mt : Nat → Nat} {i : Nat} (h : fnx F mem mt i < pop F) : i < fnx F mem mt i ∧ mem (fnx F mem mt i) = true ∧ mt (fnx F mem mt i) = 0 ∧ adj (pl F i) (pl F (fnx F mem mt i)) := by
  have := fa_first_yes (fun j => decide (i < j) && mem j && decide (mt j = 0) && cd (adj (pl F i) (pl F j))) (pop F) h
  rw [fnx_iff] at this
  exact this
theorem fnx_is {F : Nat} {mem : Nat → Bool} {mt : Nat → Nat} {i j : Nat} (hj : j < pop F) (h : i < j ∧ mem j = true ∧ mt j = 0 ∧ adj (pl F i) (pl F j)) (hn : ∀ k, k < j → ¬ (i < k ∧ mem k = true ∧ mt k = 0 ∧ adj (pl F i) (pl F k))) : fnx F mem mt i = j := by
  rcases Nat.lt_trichotomy (fnx F mem mt i) j with z | z | z
  · exact absurd (fnx_yes (by omega)) (hn _ z)
  · exact z
  · have := fa_first_no (fun j => decide (i < j) && mem j && decide (mt j = 0) && cd (adj (pl F i) (pl F j))) (pop F) j z
    rw [← Bool.not_eq_true, fnx_iff] at this
    exact absurd h this
theorem fnx_no {F : Nat} {mem : Nat → Bool} {mt : Nat → Nat} {i : Nat} (hn : ∀ k, k < pop F → ¬ (i < k ∧ mem k = true ∧ mt k = 0 ∧ adj (pl F i) (pl F k))) : fnx F mem mt i = pop F := by
  have hl := fa_first_le (fun j => decide (i < j) && mem j && decide (mt j = 0) && cd (adj (pl F i) (pl F j))) (pop F)
  rcases Nat.lt_or_ge (fnx F mem mt i) (pop F) with z | z
  · exact absurd (fnx_yes z) (hn _ z)
  · unfold fnx at *; omega
theorem frO_c {F S us i s : Nat} {mem : Nat → Bool} {mt : Nat → Nat} (hi : i < pop F) (h24 : pop F ≤ 24) (hS : ∀ j, j < pop F → S.testBit (pl F j) = mem j) (hu : ∀ j, j < pop F → us.testBit j = decide (mt j ≠ 0)) :
    (∃ j, j < pop F ∧ nbp (pl F i) s = some (pl F j) ∧ mt j = 0 ∧ mem j = true ∧ frO F S us (tch F i s) = nI j) ∨ (frO F S us (tch F i s) = -1 ∧ ∀ j, j < pop F → nbp (pl F i) s = some (pl F j) → ¬ (mt j = 0 ∧ mem j = true)) := by
  rcases tch_in (s := s) hi with q | ⟨j, hj, q1, q2, q3⟩
  · refine .inr ⟨?_, fun j hj e => ?_⟩
    · rw [q]; unfold frO; split <;> rfl
    · rw [tch_of hj e] at q
      exact absurd q (nI_ne (by omega))
  · have ex : (∃ j', j' < pop F ∧ nI j = nI j' ∧ us.testBit j' = false ∧ S.testBit (pl F j') = true) ↔ mt j = 0 ∧ mem j = true := by
      constructor
      · rintro ⟨j', a, b, c, e⟩
        have : j = j' := nI_inj (by omega) (by omega) b
        subst this
        rw [hu j hj] at c
        rw [hS j hj] at e
        exact ⟨by simpa using c, e⟩
      · rintro ⟨a, b⟩
        exact ⟨j, hj, rfl, by rw [hu j hj]; simpa using a, by rw [hS j hj]; exact b⟩
    by_cases z : mt j = 0 ∧ mem j = true
    · refine .inl ⟨j, hj, q3, z.1, z.2, ?_⟩
      rw [q1]; unfold frO; rw [if_pos (by rw [cd_iff, ex]; exact z)]
    · refine .inr ⟨?_, fun j' hj' e => ?_⟩
      · rw [q1]; unfold frO; rw [if_neg (by rw [cd_iff, ex]; exact z)]
      · have : j = j' := pl_inj hj hj' (by rw [q3] at e; exact Option.some.inj e)
        subst this; exact z
theorem nbp_lt {F i j : Nat} (hi : i < pop F) (hj : j < pop F) : (i < j ∧ adj (pl F i) (pl F j)) ↔ (nbp (pl F i) 0 = some (pl F j) ∨ nbp (pl F i) 2 = some (pl F j)) := by
  have pi := (pl_spec hi).1
  have pj := (pl_spec hj).1
  rw [← pl_ltI hi hj]
  simp only [nbp, adj]
  constructor
  · rintro ⟨a, b⟩
    rcases b with ⟨b1, b2⟩ | ⟨b1, b2⟩ | b | b
    · exact .inl (by rw [if_pos b2, b1])
    · omega
    · exact .inr (by rw [if_pos (by omega), b])
    · omega
  · rintro (a | a)
    · split at a <;> simp at a; omega
    · split at a <;> simp at a; omega
theorem fnx_cl {F S us i : Nat} {mem : Nat → Bool} {mt : Nat → Nat} (hi : i < pop F) (h24 : pop F ≤ 24) (hS : ∀ j, j < pop F → S.testBit (pl F j) = mem j) (hu : ∀ j, j < pop F → us.testBit j = decide (mt j ≠ 0)) :
    (fnx F mem mt i < pop F ∧ frO F S us (tch F i 0) = nI (fnx F mem mt i)) ∨ (frO F S us (tch F i 0) = -1 ∧ fnx F mem mt i < pop F ∧ frO F S us (tch F i 2) = nI (fnx F mem mt i)) ∨ (frO F S us (tch F i 0) = -1 ∧ frO F S us (tch F i 2) = -1 ∧ fnx F mem mt i = pop F) := by
  rcases frO_c (s := 0) hi h24 hS hu with ⟨j, hj, a1, a2, a3, a4⟩ | ⟨a1, a2⟩
  · left
    have k := (nbp_lt hi hj).mpr (.inl a1)
    have e : fnx F mem mt i = j := by
      refine fnx_is hj ⟨k.1, a3, a2, k.2⟩ (fun k' hk ⟨b1, b2, b3, b4⟩ => ?_)
      have hk' : k' < pop F := by omega
      have pk := (pl_ltI hk' hj).mpr hk
      rcases (nbp_lt hi hk').mp ⟨b1, b4⟩ with c | c
      · rw [a1] at c
        have := Option.some.inj c; omega
      · simp only [nbp] at a1 c
        split at a1 <;> simp at a1
        split at c <;> simp at c
        omega
    rw [e]; exact ⟨hj, a4⟩
  · right
    rcases frO_c (s := 2) hi h24 hS hu with ⟨j, hj, c1, c2, c3, c4⟩ | ⟨c1, c2⟩
    · left
      have k := (nbp_lt hi hj).mpr (.inr c1)
      have e : fnx F mem mt i = j := by
        refine fnx_is hj ⟨k.1, c3, c2, k.2⟩ (fun k' hk ⟨b1, b2, b3, b4⟩ => ?_)
        have hk' : k' < pop F := by omega
        have pk := (pl_ltI hk' hj).mpr hk
        rcases (nbp_lt hi hk').mp ⟨b1, b4⟩ with c | c
        · exact a2 k' hk' c ⟨b3, b2⟩
        · rw [c1] at c
          have := Option.some.inj c; omega
      rw [e]; exact ⟨a1, hj, c4⟩
    · right
      refine ⟨a1, c1, fnx_no (fun k hk ⟨b1, b2, b3, b4⟩ => ?_)⟩
      rcases (nbp_lt hi hk).mp ⟨b1, b4⟩ with c | c
      · exact a2 k hk c ⟨b3, b2⟩
      · exact c2 k hk c ⟨b3, b2⟩
theorem cw_s {F : Nat} {mem : Nat → Bool} {n : Nat} : cw F mem (n + 1) = if mem n = true then stpM F mem n (cw F mem n) else cw F mem n := rfl
theorem cw_inv {F : Nat} {mem : Nat → Bool} : ∀ n, n ≤ pop F → ∀ c j, cw F mem n c = j + 1 → c < pop F ∧ j < pop F ∧ mem c = true ∧ mem j = true ∧ cw F mem n j = c + 1 ∧ c ≠ j ∧ (c < j → c < n)
  | 0, _, c, j, h => by cases h
  | n + 1, hn, c, j, h => by
    have ih := cw_inv (F := F) (mem := mem) n (by omega)
    have keep : cw F mem (n + 1) = cw F mem n → c < pop F ∧ j < pop F ∧ mem c = true ∧ mem j = true ∧ cw F mem (n + 1) j = c + 1 ∧ c ≠ j ∧ (c < j → c < n + 1) := fun e => by
      rw [e] at h ⊢
      obtain ⟨a1, a2, a3, a4, a5, a6, a7⟩ := ih c j h
      exact ⟨a1, a2, a3, a4, a5, a6, fun z => by have := a7 z; omega⟩
    by_cases m : mem n = true
    · by_cases z : cw F mem n n = 0 ∧ fnx F mem (cw F mem n) n < pop F
      · have e : cw F mem (n + 1) = va_up (va_up (cw F mem n) n (fnx F mem (cw F mem n) n + 1)) (fnx F mem (cw F mem n) n) (n + 1) := by rw [cw_s, if_pos m]; unfold stpM; rw [if_pos z]
        obtain ⟨x1, x2, x3, x4⟩ := fnx_yes z.2
        have z1 := z.1
        have z2 := z.2
        obtain ⟨x, ex⟩ : ∃ x, x = fnx F mem (cw F mem n) n := ⟨_, rfl⟩
        rw [← ex] at e x1 x2 x3 x4 z2
        rw [e] at h ⊢
        by_cases c1 : c = x
        · subst c1
          rw [vu_eq] at h
          have : j = n := by omega
          subst this
          refine ⟨z2, by omega, x2, m, ?_, by omega, by omega⟩
          rw [vu_ne (by omega), vu_eq]
        · rw [vu_ne c1] at h
          by_cases c2 : c = n
          · subst c2
            rw [vu_eq] at h
            have : j = x := by omega
            subst this
            refine ⟨by omega, z2, m, x2, ?_, by omega, by omega⟩
            rw [vu_eq]
          · rw [vu_ne c2] at h
            obtain ⟨a1, a2, a3, a4, a5, a6, a7⟩ := ih c j h
            have j1 : j ≠ x := fun k => by rw [k, x3] at a5; omega
            have j2 : j ≠ n := fun k => by rw [k, z1] at a5; omega
            refine ⟨a1, a2, a3, a4, ?_, a6, fun q => by have := a7 q; omega⟩
            rw [vu_ne j1, vu_ne j2]; exact a5
      · exact keep (by rw [cw_s, if_pos m]; unfold stpM; rw [if_neg z])
    · exact keep (by rw [cw_s, if_neg m])
theorem cw_st1 {F : Nat} {mem : Nat → Bool} {n c : Nat} (hc : c < n) : cw F mem (n + 1) c = cw F mem n c := by
  rw [cw_s]
  by_cases m : mem n = true
  · rw [if_pos m]
    unfold stpM
    by_cases z : cw F mem n n = 0 ∧ fnx F mem (cw F mem n) n < pop F
    · have x1 := (fnx_yes z.2).1
      rw [if_pos z, vu_ne (by omega), vu_ne (by omega)]
    · rw [if_neg z]
  · rw [if_neg m]
theorem cw_st {F : Nat} {mem : Nat → Bool} {n c : Nat} (hc : c < n) : ∀ k, cw F mem (n + k) c = cw F mem n c
  | 0 => rfl
  | k + 1 => by rw [← Nat.add_assoc, cw_st1 (by omega), cw_st hc k]
/-- cell c is the lesser of a couple -/
noncomputable def lsr (F : Nat) (mem : Nat → Bool) (c : Nat) : Bool := decide (c + 1 < cw F mem (pop F) c)
theorem cw_fin {F : Nat} {mem : Nat → Bool} {n c : Nat} (hc : c < n) (hn : n ≤ pop F) : cw F mem (pop F) c = cw F mem n c := by
  have := cw_st (F := F) (mem := mem) hc (pop F - n)
  rw [show n + (pop F - n) = pop F by omega] at this
  exact this
theorem lsr_s {F : Nat} {mem : Nat → Bool} {n : Nat} (hn : n < pop F) : (mem n = true ∧ cw F mem n n = 0 ∧ fnx F mem (cw F mem n) n < pop F ∧ lsr F mem n = true ∧ cw F mem (pop F) n = fnx F mem (cw F mem n) n + 1 ∧ cw F mem (n + 1) = va_up (va_up (cw F mem n) n (fnx F mem (cw F mem n) n + 1)) (fnx F mem (cw F mem n) n) (n + 1)) ∨ (¬ (mem n = true ∧ cw F mem n n = 0 ∧ fnx F mem (cw F mem n) n < pop F) ∧ lsr F mem n = false ∧ cw F mem (n + 1) = cw F mem n) := by
  have fin := cw_fin (F := F) (mem := mem) (n := n + 1) (c := n) (by omega) (by omega)
  by_cases z : mem n = true ∧ cw F mem n n = 0 ∧ fnx F mem (cw F mem n) n < pop F
  · left
    have e : cw F mem (n + 1) = va_up (va_up (cw F mem n) n (fnx F mem (cw F mem n) n + 1)) (fnx F mem (cw F mem n) n) (n + 1) := by rw [cw_s, if_pos z.1]; unfold stpM; rw [if_pos z.2]
    have x1 := (fnx_yes z.2.2).1
    have e2 : cw F mem (pop F) n = fnx F mem (cw F mem n) n + 1 := by rw [fin, e, vu_ne (by omega), vu_eq]
    exact ⟨z.1, z.2.1, z.2.2, by unfold lsr; rw [e2]; exact decide_eq_true (by omega), e2, e⟩
  · right
    have e : cw F mem (n + 1) = cw F mem n := by
      rw [cw_s]
      by_cases m : mem n = true
      · rw [if_pos m]; unfold stpM; rw [if_neg (fun k => z ⟨m, k⟩)]
      · rw [if_neg m]
    refine ⟨z, ?_, e⟩
    unfold lsr
    rw [fin, e]
    refine decide_eq_false (fun k => ?_)
    obtain ⟨a1, a2, a3, a4, a5, a6, a7⟩ := cw_inv (F := F) (mem := mem) n (by omega) n (cw F mem n n - 1) (by omega)
    have := a7 (by omega)
    omega
theorem ct_add {p : Nat → Bool} {i n : Nat} (hi : i < n) (h : p i = false) : fb_ct (fun k => if k = i then true else p k) n = fb_ct p n + 1 := by
  have := fb_ct_upd p true hi
  rw [h] at this
  simpa using this
theorem cw_ct {F : Nat} {mem : Nat → Bool} : ∀ n, n ≤ pop F → fb_ct (fun c => decide (cw F mem n c ≠ 0)) (pop F) = 2 * fb_ct (lsr F mem) n
  | 0, _ => fb_ct_zero.mpr (fun k _ => decide_eq_false (fun z => z rfl))
  | n + 1, hn => by
    have ih := cw_ct (F := F) (mem := mem) n (by omega)
    rw [fb_ct_succ]
    rcases lsr_s (F := F) (mem := mem) (n := n) (by omega) with ⟨z1, z2, z3, z4, z5, z6⟩ | ⟨_, z4, z6⟩
    · rw [z4, if_pos rfl, z6]
      obtain ⟨x1, x2, x3, x4⟩ := fnx_yes z3
      obtain ⟨x, ex⟩ : ∃ x, x = fnx F mem (cw F mem n) n := ⟨_, rfl⟩
      rw [← ex] at x1 x2 x3 x4 z3 ⊢
      have e : (fun c => decide (va_up (va_up (cw F mem n) n (x + 1)) x (n + 1) c ≠ 0)) = fun c => if c = x then true else (fun c => if c = n then true else (fun c => decide (cw F mem n c ≠ 0)) c) c := by
        funext c
        unfold va_up
        by_cases c1 : c = x
        · simp [c1]
        · by_cases c2 : c = n
          · simp [c2, show ¬ n = x by omega]
          · simp [c1, c2]
      rw [e]
      have u2 := ct_add (p := fun c => decide (cw F mem n c ≠ 0)) (i := n) (n := pop F) (by omega) (by simp [z2])
      have u1 := ct_add (p := fun c => if c = n then true else (fun c => decide (cw F mem n c ≠ 0)) c) (i := x) (n := pop F) z3 (by simp [show ¬ x = n by omega, x3])
      rw [u1, u2, ih]; omega
    · rw [z4, z6, ih]; simp
theorem lsr_12 {F : Nat} {mem : Nat → Bool} {n : Nat} (hn : n ≤ pop F) (h24 : pop F ≤ 24) : fb_ct (lsr F mem) n ≤ 12 := by
  have a := cw_ct (F := F) (mem := mem) n hn
  have b := fb_ct_le (fun c => decide (cw F mem n c ≠ 0)) (pop F)
  omega
