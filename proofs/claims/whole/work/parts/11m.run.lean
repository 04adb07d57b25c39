/-! ===== runs of the abstract machine ===== -/
def exF (cal : Nat → List Value → Mem → Ans) (X : Nat × (Nat → Int32)) (bk : Nat) : List AI → List Value → List Value → Mem → Option Out
  | [], L, st, m => some (.inr (bk + 1, L, st, m))
  | a :: is, L, st, m => match stp cal X swt bk a L st m with
    | none => none
    | some (.inl (L', st', m')) => exF cal X bk is L' st' m'
    | some (.inr o) => some o
def runF (cal : Nat → List Value → Mem → Ans) (X : Nat × (Nat → Int32)) (mi : Nat) : Nat → Nat → List Value → List Value → Mem → Ans
  | 0, _, _, _, _ => none
  | n + 1, b, L, st, m => match exF cal X b (cod mi b) L st m with
    | none => none
    | some (.inl r) => some r
    | some (.inr (b', L', st', m')) => runF cal X mi n b' L' st' m'
theorem runF_succ {cal : Nat → List Value → Mem → Ans} {X : Nat × (Nat → Int32)} {mi : Nat} : ∀ (n b : Nat) (L st : List Value) (m : Mem) (r : Option Value × Mem), runF cal X mi n b L st m = some r → runF cal X mi (n + 1) b L st m = some r := by
  intro n
  induction n with
  | zero => intro b L st m r h; cases h
  | succ n ih =>
    intro b L st m r h
    rw [runF] at h ⊢
    cases he : exF cal X b (cod mi b) L st m with
    | none => rw [he] at h; cases h
    | some o =>
      rw [he] at h
      cases o with
      | inl q => exact h
      | inr q => obtain ⟨b', L', st', m'⟩ := q; exact ih b' L' st' m' r h
theorem runF_le {cal : Nat → List Value → Mem → Ans} {X : Nat × (Nat → Int32)} {mi n k b : Nat} {L st : List Value} {m : Mem} {r : Option Value × Mem} (h : runF cal X mi n b L st m = some r) (hk : n ≤ k) : runF cal X mi k b L st m = some r := by
  induction hk with
  | refl => exact h
  | step _ ih => exact runF_succ _ _ _ _ _ _ ih
noncomputable def lim (f : Nat → Ans) : Ans := @dite _ (∃ r n, f n = some r) (Classical.propDecidable _) (fun h => some (Classical.choose h)) (fun _ => none) --∃ r n, f n = some r then some (Classical.choose h) else none
theorem lim_of {f : Nat → Ans} {n : Nat} {r : Option Value × Mem} (hm : ∀ n k r, f n = some r → n ≤ k → f k = some r) (h : f n = some r) : lim f = some r := by
  have hx : ∃ r n, f n = some r := ⟨r, n, h⟩
  unfold lim
  rw [dif_pos hx]
  obtain ⟨k, hk⟩ := Classical.choose_spec hx
  have a := hm _ (max n k) _ hk (Nat.le_max_right _ _)
  have b := hm _ (max n k) _ h (Nat.le_max_left _ _)
  rw [a] at b
  exact b
theorem lim_some {f : Nat → Ans} {r : Option Value × Mem} (h : lim f = some r) : ∃ n, f n = some r := by
  unfold lim at h
  by_cases hx : ∃ r n, f n = some r
  · rw [dif_pos hx] at h
    cases h
    exact Classical.choose_spec hx
  · rw [dif_neg hx] at h
    cases h
def flatA : List Value → List Value
  | [] => []
  | v :: t => match v with
    | .long x => .long x :: .retAddr 0 :: flatA t
    | .double x => .double x :: .retAddr 0 :: flatA t
    | w => w :: flatA t
def entL (mi : Nat) (args : List Value) : List Value := flatA args ++ List.replicate (ML mi - (flatA args).length) (.retAddr 0)
