/-! ===== every step of the abstract machine is a step of the real one ===== -/
theorem s_ok_inj {L st L' st' : List Value} {M M' : Mem} (h : s_ok L st M = some (.inl (L', st', M'))) : L' = L ∧ st' = st ∧ M' = M := by
  unfold s_ok at h
  cases h
  exact ⟨rfl, rfl, rfl⟩
theorem s_ok_nr {L st : List Value} {M : Mem} {o : Out} (h : s_ok L st M = some (.inr o)) : False := by unfold s_ok at h; cases h
def grows (cal : Nat → List Value → Mem → Ans) : Prop := ∀ mi vs M r, cal mi vs M = some r → m_n M ≤ m_n r.2 ∧ m_z M ≤ m_z r.2
theorem swj_nl {t : List (Nat × Nat)} {d : Nat} {x : Int32} {L st L' st' : List Value} {M M' : Mem} (h : swj t d x L st M = some (.inl (L', st', M'))) : False := by
  rw [swj_k] at h
  obtain ⟨b, hb⟩ := swk_r t d x L st M
  rw [hb] at h
  cases h
theorem s_call_inv {r : Ans} {L st L' st' : List Value} {M' : Mem} (h : s_call r L st = some (.inl (L', st', M'))) : ∃ v, r = some (v, M') ∧ L' = L ∧ st' = psh v st := by
  unfold s_call at h
  split at h
  · cases h
  · next v m0 => obtain ⟨e1, e2, e3⟩ := s_ok_inj h; subst e3; exact ⟨v, rfl, e1, e2⟩
set_option maxHeartbeats 4000000 in
theorem stp_grows {cal : Nat → List Value → Mem → Ans} (hc : grows cal) {X : Nat × (Nat → Int32)} {sw : Nat → List (Nat × Nat)} {bk : Nat} {a : AI} {L st L' st' : List Value} {M M' : Mem} (h : stp cal X sw bk a L st M = some (.inl (L', st', M'))) : m_n M ≤ m_n M' ∧ m_z M ≤ m_z M' := by
  unfold stp at h
  split at h
  all_goals repeat' (split at h)
  all_goals first
    | (cases h; done)
    | exact (swj_nl h).elim
    | (obtain ⟨-, -, e⟩ := s_ok_inj h; subst e; exact ⟨Nat.le_refl _, Nat.le_refl _⟩)
    | (obtain ⟨-, -, e⟩ := s_ok_inj h; subst e; exact ⟨Nat.le_succ _, Nat.le_add_right _ _⟩)
    | (obtain ⟨v, e, -, -⟩ := s_call_inv h; exact hc _ _ _ _ e)
    | (unfold s_jp at h; cases h; done)
    | (unfold s_rt at h; cases h; done)
