/-! ===== the reference's matching: what a search for a mate makes ===== -/
def MtC (N : Nat) (E : Nat → Nat → Prop) (cm : Nat → Nat) : Prop := (∀ j, j < N → ∀ u, cm j = u + 1 → u < N ∧ E u j) ∧ (∀ j k, j < N → k < N → cm j = cm k → cm j ≠ 0 → j = k)
/-- a set of matched ones out of which no way leads -/
def ClS (N : Nat) (E : Nat → Nat → Prop) (cm : Nat → Nat) (S : Nat → Prop) : Prop := ∀ j, j < N → S j → ∃ u, cm j = u + 1 ∧ ∀ k, k < N → E u k → S k
def FMt (N : Nat) (E : Nat → Nat → Prop) (v : Nat) (cm : Nat → Nat) (sn : Nat → Bool) (cm' : Nat → Nat) : Prop :=
  (∀ j, j < N → ∀ u, cm' j = u + 1 → u < N ∧ E u j) ∧ (∀ j, j < N → sn j = true → cm' j = cm j) ∧ (∀ j k, j < N → k < N → cm' j = cm' k → cm' j ≠ 0 → j = k ∨ (cm' j = v + 1 ∧ (sn j = true ∨ sn k = true))) ∧ (∃ j, j < N ∧ sn j = false ∧ cm' j = v + 1) ∧ (fb_ct (fun j => decide (cm' j ≠ 0)) N = fb_ct (fun j => decide (cm j ≠ 0)) N + 1) ∧ (∀ w, w ≠ v → (∃ j, j < N ∧ cm j = w + 1) → ∃ j, j < N ∧ cm' j = w + 1) ∧ (∀ w, w ≠ v → (∃ j, j < N ∧ cm' j = w + 1) → ∃ j, j < N ∧ cm j = w + 1) ∧ (∀ S, ClS N E cm S → (∀ j, j < N → S j → cm' j = cm j) ∧ ∃ j, j < N ∧ E v j ∧ ¬ S j)
def FMf (N : Nat) (E : Nat → Nat → Prop) (v : Nat) (cm : Nat → Nat) (sn sn' : Nat → Bool) : Prop :=
  (∀ j, sn j = true → sn' j = true) ∧ (∀ j, j < N → E v j → sn' j = true) ∧ (∀ j, j < N → sn' j = true → sn j = false → ∃ u, cm j = u + 1 ∧ ∀ k, k < N → E u k → sn' k = true)
theorem FM_base {N v j : Nat} {E : Nat → Nat → Prop} {cm : Nat → Nat} {sn : Nat → Bool} (hC : MtC N E cm) (hv : v < N) (h3 : ∀ k, k < N → cm k = v + 1 → sn k = true) (hj : j < N) (sj : sn j = false) (ej : E v j) (cj : cm j = 0) : FMt N E v cm sn (va_up cm j (v + 1)) := by
  obtain ⟨c1, c2⟩ := hC
  refine ⟨fun k hk u e => ?_, fun k hk e => ?_, fun a b ha hb e ne => ?_, ⟨j, hj, sj, vu_eq⟩, ?_, fun w hw ⟨k, hk, e⟩ => ⟨k, hk, ?_⟩, fun w hw ⟨k, hk, e⟩ => ?_, fun S hS => ⟨fun k hk sk => ?_, j, hj, ej, fun sk => ?_⟩⟩
  · by_cases z : k = j
    · subst z; rw [vu_eq] at e
      have : u = v := by omega
      subst this; exact ⟨hv, ej⟩
    · rw [vu_ne z] at e; exact c1 k hk u e
  · exact vu_ne (fun z => by subst z; rw [sj] at e; cases e)
  · by_cases z : a = j
    · by_cases y : b = j
      · exact .inl (by omega)
      · subst z
        rw [vu_eq, vu_ne y] at e
        rw [vu_eq]
        exact .inr ⟨rfl, .inr (h3 b hb e.symm)⟩
    · by_cases y : b = j
      · subst y
        rw [vu_ne z, vu_eq] at e
        rw [vu_ne z]
        exact .inr ⟨e, .inl (h3 a ha e)⟩
      · rw [vu_ne z, vu_ne y] at e
        rw [vu_ne z] at ne
        exact .inl (c2 a b ha hb e ne)
  · have : (fun k => decide (va_up cm j (v + 1) k ≠ 0)) = fun k => if k = j then true else (fun k => decide (cm k ≠ 0)) k := by
      funext k
      by_cases z : k = j
      · subst z; rw [vu_eq, if_pos rfl]; exact decide_eq_true (by omega)
      · rw [vu_ne z, if_neg z]
    rw [this, ct_add (p := fun k => decide (cm k ≠ 0)) hj (by simp [cj])]
  · rw [vu_ne (fun z => by subst z; rw [cj] at e; omega)]; exact e
  · by_cases z : k = j
    · subst z; rw [vu_eq] at e; omega
    · rw [vu_ne z] at e; exact ⟨k, hk, e⟩
  · exact vu_ne (fun z => by subst z; obtain ⟨u, e, _⟩ := hS k hk sk; rw [cj] at e; omega)
  · obtain ⟨u, e, _⟩ := hS j hj sk
    rw [cj] at e; omega
theorem FM_step {N v j u : Nat} {E : Nat → Nat → Prop} {cm cm' : Nat → Nat} {sn sn1 : Nat → Bool} (hC : MtC N E cm) (hv : v < N) (h3 : ∀ k, k < N → cm k = v + 1 → sn k = true) (hj : j < N) (sj : sn j = false) (ej : E v j) (cj : cm j = u + 1) (hs : ∀ k, sn k = true → sn1 k = true) (s1j : sn1 j = true) (h : FMt N E u cm sn1 cm') : FMt N E v cm sn (va_up cm' j (v + 1)) := by
  obtain ⟨c1, c2⟩ := hC
  obtain ⟨t1, t2, t3, ⟨j0, t4a, t4b, t4c⟩, t5, t6, t7, t8⟩ := h
  have uj : cm' j = u + 1 := by rw [t2 j hj s1j]; exact cj
  have uv : u ≠ v := fun z => by
    subst z
    rw [h3 j hj cj] at sj; cases sj
  have onlyj : ∀ k, k < N → cm' k = u + 1 → sn1 k = true → k = j := fun k hk e s => c2 k j hk hj (by rw [← t2 k hk s, e, cj]) (by rw [← t2 k hk s, e]; omega)
  refine ⟨fun k hk w e => ?_, fun k hk e => ?_, fun a b ha hb e ne => ?_, ⟨j, hj, sj, vu_eq⟩, ?_, fun w hw ⟨k, hk, e⟩ => ?_, fun w hw ⟨k, hk, e⟩ => ?_, fun S hS => ?_⟩
  · by_cases z : k = j
    · subst z; rw [vu_eq] at e
      have : w = v := by omega
      subst this; exact ⟨hv, ej⟩
    · rw [vu_ne z] at e; exact t1 k hk w e
  · rw [vu_ne (fun z => by subst z; rw [sj] at e; cases e)]; exact t2 k hk (hs k e)
  · -- v may stand twice alone
    have vk : ∀ k, k < N → cm' k = v + 1 → sn k = true := fun k hk e => by
      obtain ⟨k1, k2, k3⟩ := t7 v (fun z => uv z.symm) ⟨k, hk, e⟩
      have s1 := h3 k1 k2 k3
      have e1 : cm' k1 = v + 1 := by rw [t2 k1 k2 (hs k1 s1)]; exact k3
      rcases t3 k k1 hk k2 (by rw [e, e1]) (by rw [e]; omega) with q | ⟨q, _⟩
      · subst q; exact s1
      · rw [e] at q; omega
    by_cases z : a = j
    · by_cases y : b = j
      · exact .inl (by omega)
      · subst z
        rw [vu_eq, vu_ne y] at e
        rw [vu_eq]
        exact .inr ⟨rfl, .inr (vk b hb e.symm)⟩
    · by_cases y : b = j
      · subst y
        rw [vu_ne z, vu_eq] at e
        rw [vu_ne z]
        exact .inr ⟨e, .inl (vk a ha e)⟩
      · rw [vu_ne z, vu_ne y] at e
        rw [vu_ne z] at ne
        rcases t3 a b ha hb e ne with q | ⟨q, q1 | q1⟩
        · exact .inl q
        · exact absurd (onlyj a ha q q1) z
        · exact absurd (onlyj b hb (by rw [← e]; exact q) q1) y
  · rw [← t5]
    refine fb_ct_cong (fun k hk => ?_)
    by_cases z : k = j
    · subst z; rw [vu_eq, uj, decide_eq_true (by omega), decide_eq_true (by omega)]
    · rw [vu_ne z]
  · by_cases z : w = u
    · subst z
      exact ⟨j0, t4a, by rw [vu_ne (fun q => by subst q; rw [s1j] at t4b; cases t4b)]; exact t4c⟩
    · obtain ⟨k1, k2, k3⟩ := t6 w z ⟨k, hk, e⟩
      exact ⟨k1, k2, by rw [vu_ne (fun q => by subst q; rw [uj] at k3; omega)]; exact k3⟩
  · by_cases y : k = j
    · subst y; rw [vu_eq] at e; omega
    · rw [vu_ne y] at e
      by_cases z : w = u
      · subst z; exact ⟨j, hj, cj⟩
      · exact t7 w z ⟨k, hk, e⟩
  · obtain ⟨s1, k, s2, s3, s4⟩ := t8 S hS
    have nj : ¬ S j := fun q => by
      obtain ⟨u', e1, e2⟩ := hS j hj q
      have : u' = u := by omega
      subst this
      exact s4 (e2 k s2 s3)
    exact ⟨fun k hk q => by rw [vu_ne (fun z => by subst z; exact nj q)]; exact s1 k hk q, j, hj, ej, nj⟩
