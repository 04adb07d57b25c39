/-! ===== a rule's condition: kinds; the class's machine ===== -/
theorem ak1_c {q : Nat × Nat} {K K' : List Bool} (h : ak1 q K = some K') : (q.1 < 6 ∧ K.length < 30 ∧ q.2 ≤ 9999 ∧ K' = false :: K) ∨ (q.1 = 9 ∧ ∃ K1, K = false :: K1 ∧ K1.length < 30 ∧ 0 < q.2 ∧ q.2 ≤ 9999 ∧ K' = false :: K1) ∨ (q.1 = 13 ∧ ∃ K1, K = true :: K1 ∧ K' = true :: K1) ∨ ((q.1 = 6 ∨ q.1 = 7 ∨ q.1 = 8) ∧ ∃ K1, K = false :: false :: K1 ∧ K' = false :: K1) ∨ ((q.1 = 10 ∨ q.1 = 11 ∨ q.1 = 12) ∧ ∃ K1, K = false :: false :: K1 ∧ K' = true :: K1) ∨ ((q.1 = 14 ∨ q.1 = 15) ∧ ∃ K1, K = true :: true :: K1 ∧ K' = true :: K1) := by
  unfold ak1 at h
  by_cases h1 : q.1 < 6
  · rw [if_pos h1] at h
    by_cases h2 : K.length < 30 ∧ q.2 ≤ 9999
    · rw [if_pos h2] at h
      exact .inl ⟨h1, h2.1, h2.2, (Option.some.inj h).symm⟩
    · rw [if_neg h2] at h; cases h
  · rw [if_neg h1] at h
    by_cases h2 : q.1 = 9
    · rw [if_pos h2] at h
      match K, h with
      | false :: K1, h =>
        by_cases h3 : K1.length < 30 ∧ q.2 ≤ 9999 ∧ 0 < q.2
        · have h' : (if K1.length < 30 ∧ q.2 ≤ 9999 ∧ 0 < q.2 then some (false :: K1) else none) = some K' := h
          rw [if_pos h3] at h'
          exact .inr (.inl ⟨h2, K1, rfl, h3.1, h3.2.2, h3.2.1, (Option.some.inj h').symm⟩)
        · have h' : (if K1.length < 30 ∧ q.2 ≤ 9999 ∧ 0 < q.2 then some (false :: K1) else none) = some K' := h
          rw [if_neg h3] at h'; cases h'
      | true :: K1, h => cases h
      | [], h => cases h
    · rw [if_neg h2] at h
      by_cases h3 : q.1 < 9
      · rw [if_pos h3] at h
        match K, h with
        | false :: false :: K1, h => exact .inr (.inr (.inr (.inl ⟨by omega, K1, rfl, (Option.some.inj h).symm⟩)))
        | false :: true :: K1, h => cases h
        | true :: K1, h => cases h
        | [false], h => cases h
        | [], h => cases h
      · rw [if_neg h3] at h
        by_cases h4 : q.1 < 13
        · rw [if_pos h4] at h
          match K, h with
          | false :: false :: K1, h => exact .inr (.inr (.inr (.inr (.inl ⟨by omega, K1, rfl, (Option.some.inj h).symm⟩))))
          | false :: true :: K1, h => cases h
          | true :: K1, h => cases h
          | [false], h => cases h
          | [], h => cases h
        · rw [if_neg h4] at h
          by_cases h5 : q.1 = 13
          · rw [if_pos h5] at h
            match K, h with
            | true :: K1, h => exact .inr (.inr (.inl ⟨h5, K1, rfl, (Option.some.inj h).symm⟩))
            | false :: K1, h => cases h
            | [], h => cases h
          · rw [if_neg h5] at h
            by_cases h6 : q.1 < 16
            · rw [if_pos h6] at h
              match K, h with
              | true :: true :: K1, h => exact .inr (.inr (.inr (.inr (.inr ⟨by omega, K1, rfl, (Option.some.inj h).symm⟩))))
              | true :: false :: K1, h => cases h
              | false :: K1, h => cases h
              | [true], h => cases h
              | [], h => cases h
            · rw [if_neg h6] at h; cases h
def okK : List Bool → List Int32 → Prop
  | [], [] => True
  | k :: K, x :: S => (k = true → ∃ b : Bool, x = bI b) ∧ okK K S
  | _, _ => False
theorem okK_len : ∀ {K : List Bool} {S : List Int32}, okK K S → S.length = K.length
  | [], [], _ => rfl
  | k :: K, x :: S, h => by rw [List.length_cons, List.length_cons, okK_len h.2]
  | [], _ :: _, h => h.elim
  | _ :: _, [], h => h.elim
theorem okK_c {k : Bool} {K : List Bool} {S : List Int32} (h : okK (k :: K) S) : ∃ x S1, S = x :: S1 ∧ (k = true → ∃ b : Bool, x = bI b) ∧ okK K S1 := by
  match S, h with
  | x :: S1, h => exact ⟨x, S1, rfl, h.1, h.2⟩
theorem okK_s {vs : Nat → Int32} {q : Nat × Nat} {K K' : List Bool} {S : List Int32} (h : ak1 q K = some K') (hS : okK K S) : okK K' (evS vs q S) := by
  rcases ak1_c h with ⟨h1, _, _, rfl⟩ | ⟨h1, K1, rfl, _, _, _, rfl⟩ | ⟨h1, K1, rfl, rfl⟩ | ⟨h1, K1, rfl, rfl⟩ | ⟨h1, K1, rfl, rfl⟩ | ⟨h1, K1, rfl, rfl⟩
  · unfold evS
    by_cases z : q.1 = 0
    · rw [if_pos z]; exact ⟨fun y => Bool.noConfusion y, hS⟩
    · rw [if_neg z, if_pos h1]; exact ⟨fun y => Bool.noConfusion y, hS⟩
  · obtain ⟨x, S1, rfl, _, h2⟩ := okK_c hS
    unfold evS
    rw [if_neg (by omega), if_neg (by omega)]
    dsimp only
    rw [if_pos h1]
    exact ⟨fun y => Bool.noConfusion y, h2⟩
  · obtain ⟨x, S1, rfl, hb, h2⟩ := okK_c hS
    obtain ⟨b, rfl⟩ := hb rfl
    unfold evS
    rw [if_neg (by omega), if_neg (by omega)]
    dsimp only
    rw [if_neg (by omega), if_pos h1]
    exact ⟨fun _ => ⟨!b, by cases b <;> decide +kernel⟩, h2⟩
  · obtain ⟨y, S1, rfl, _, h2⟩ := okK_c hS
    obtain ⟨x, S2, rfl, _, h3⟩ := okK_c h2
    unfold evS
    rw [if_neg (by omega), if_neg (by omega)]
    dsimp only
    rw [if_neg (by omega), if_neg (by omega)]
    exact ⟨fun y => Bool.noConfusion y, h3⟩
  · obtain ⟨y, S1, rfl, _, h2⟩ := okK_c hS
    obtain ⟨x, S2, rfl, _, h3⟩ := okK_c h2
    unfold evS
    rw [if_neg (by omega), if_neg (by omega)]
    dsimp only
    rw [if_neg (by omega), if_neg (by omega)]
    refine ⟨fun _ => ?_, h3⟩
    unfold boF
    rcases h1 with z | z | z
    · rw [z]; exact ⟨_, rfl⟩
    · rw [z]; exact ⟨_, rfl⟩
    · rw [z]; exact ⟨_, rfl⟩
  · obtain ⟨y, S1, rfl, hb, h2⟩ := okK_c hS
    obtain ⟨x, S2, rfl, ha, h3⟩ := okK_c h2
    obtain ⟨b, rfl⟩ := hb rfl
    obtain ⟨a, rfl⟩ := ha rfl
    unfold evS
    rw [if_neg (by omega), if_neg (by omega)]
    dsimp only
    rw [if_neg (by omega), if_neg (by omega)]
    refine ⟨fun _ => ?_, h3⟩
    unfold boF
    rcases h1 with z | z
    · rw [z]; exact ⟨a && b, by cases a <;> cases b <;> decide +kernel⟩
    · rw [z]; exact ⟨a || b, by cases a <;> cases b <;> decide +kernel⟩
