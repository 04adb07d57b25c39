/-! ===== pairs laid: the reference ===== -/
theorem lsr_mem {F c : Nat} {mem : Nat → Bool} (h : lsr F mem c = true) : c < pop F ∧ mem c = true := by
  have h : c + 1 < cw F mem (pop F) c := of_decide_eq_true h
  obtain ⟨a1, a2, a3, _⟩ := cw_inv (F := F) (mem := mem) (pop F) (Nat.le_refl _) c (cw F mem (pop F) c - 1) (by omega)
  exact ⟨a1, a3⟩
theorem ixM_lt {F m : Nat} {mem : Nat → Bool} (h24 : pop F ≤ 24) (hm : m < fb_ct mem (pop F)) : (lsr F mem (kth mem (pop F) m) = true ∧ ∃ j, m < j ∧ j < fb_ct mem (pop F) ∧ ixM mem (cw F mem (pop F) (kth mem (pop F) m)) = nI j ∧ kth mem (pop F) j + 1 = cw F mem (pop F) (kth mem (pop F) m)) ∨ (lsr F mem (kth mem (pop F) m) = false ∧ ixM mem (cw F mem (pop F) (kth mem (pop F) m)) < nI m) := by
  obtain ⟨k1, k2, k3⟩ := kth_spec hm
  have m24 : m < 24 := by have := fb_ct_le mem (pop F); omega
  obtain ⟨c, ec⟩ : ∃ c, c = kth mem (pop F) m := ⟨_, rfl⟩
  rw [← ec] at k1 k2 k3 ⊢
  cases l : lsr F mem c with
  | true =>
    left
    refine ⟨rfl, ?_⟩
    have h : c + 1 < cw F mem (pop F) c := of_decide_eq_true l
    obtain ⟨a1, a2, a3, a4, a5, a6, a7⟩ := cw_inv (F := F) (mem := mem) (pop F) (Nat.le_refl _) c (cw F mem (pop F) c - 1) (by omega)
    have g1 := kth_lt (p := mem) (N := cw F mem (pop F) c - 1) (i := c) (by omega) k2
    have g2 := kth_lt a2 a4
    have g3 := kth_ct a2 a4
    refine ⟨fb_ct mem (cw F mem (pop F) c - 1), by omega, g2, ?_, by omega⟩
    unfold ixM
    rw [if_neg (by omega)]
  | false =>
    right
    refine ⟨rfl, ?_⟩
    have h : ¬ c + 1 < cw F mem (pop F) c := of_decide_eq_false l
    by_cases z : cw F mem (pop F) c = 0
    · have e : ixM mem (cw F mem (pop F) c) = -1 := by unfold ixM; rw [if_pos z]
      rw [e]
      rcases of_c (-1) m (by omega) with ⟨j, _, q⟩ | q | q
      · exact absurd q.symm (nI_ne (by omega))
      · exact q.1 |> fun t => Int32.lt_of_lt_of_le t (by
          rw [show (0 : Int32) = nI 0 from rfl, nI_leI (by decide) (by omega)]; omega)
      · exact absurd (by decide) q.1
    · obtain ⟨a1, a2, a3, a4, a5, a6, a7⟩ := cw_inv (F := F) (mem := mem) (pop F) (Nat.le_refl _) c (cw F mem (pop F) c - 1) (by omega)
      have g1 := kth_lt (p := mem) (N := c) (i := cw F mem (pop F) c - 1) (by omega) a4
      unfold ixM
      rw [if_neg z, nI_ltI (by omega) (by omega)]
      omega
