/-! ===== tokens (pure) ===== -/
def ltr (c : Nat) : Bool := (decide (97 ≤ c) && decide (c ≤ 122)) || (decide (65 ≤ c) && decide (c ≤ 90))
def dgt (c : Nat) : Bool := decide (48 ≤ c) && decide (c ≤ 57)
def blnk (c : Nat) : Bool := decide (c = 32) || decide (c = 10)
def sgn (c : Nat) : Bool := decide (c = 59) || decide (c = 43) || decide (c = 45) || decide (c = 42) || decide (c = 47) || decide (c = 40) || decide (c = 41) || decide (c = 60) || decide (c = 61) || decide (c = 62)
/-- where a run that begins at p ends -/
def rnE (P : Nat → Bool) (tp : Nat → Nat) (tl p : Nat) : Nat := fa_first (fun k => decide (p ≤ k) && !P (tp k)) tl
theorem rnE_s {P : Nat → Bool} {tp : Nat → Nat} {tl p : Nat} (hp : p ≤ tl) : p ≤ rnE P tp tl p ∧ rnE P tp tl p ≤ tl ∧ (∀ k, p ≤ k → k < rnE P tp tl p → P (tp k) = true) ∧ (rnE P tp tl p < tl → P (tp (rnE P tp tl p)) = false) := by
  have hl := fa_first_le (fun k => decide (p ≤ k) && !P (tp k)) tl
  refine ⟨?_, hl, fun k h1 h2 => ?_, fun h => ?_⟩
  · rcases Nat.lt_or_ge (rnE P tp tl p) tl with q | q
    · have := fa_first_yes (fun k => decide (p ≤ k) && !P (tp k)) tl q
      rw [Bool.and_eq_true, decide_eq_true_iff] at this
      exact this.1
    · omega
  · have := fa_first_no (fun k => decide (p ≤ k) && !P (tp k)) tl k h2
    rw [decide_eq_true h1, Bool.true_and] at this
    simpa using this
  · have := fa_first_yes (fun k => decide (p ≤ k) && !P (tp k)) tl h
    rw [Bool.and_eq_true] at this
    unfold rnE
    simpa using this.2
theorem rnE_is {P : Nat → Bool} {tp : Nat → Nat} {tl p e : Nat} (h1 : p ≤ e) (h2 : e ≤ tl) (h3 : ∀ k, p ≤ k → k < e → P (tp k) = true) (h4 : e < tl → P (tp e) = false) : rnE P tp tl p = e := by
  obtain ⟨a, b, c, d⟩ := rnE_s (P := P) (tp := tp) (tl := tl) (p := p) (by omega)
  rcases Nat.lt_trichotomy (rnE P tp tl p) e with q | q | q
  · have := h3 _ a q
    rw [d (by omega)] at this; cases this
  · exact q
  · have := c e h1 q
    rw [h4 (by omega)] at this; cases this
def txt (tp : Nat → Nat) (p n : Nat) : List Nat := (List.range n).map (fun k => tp (p + k))
def wdK (t : List Nat) : Nat := if fa_first (fun w => decide (strT (w + 2) = t)) 20 < 20 then 256 + fa_first (fun w => decide (strT (w + 2) = t)) 20 else 1
theorem wd_inj : ∀ a, a < 20 → ∀ b, b < 20 → strT (a + 2) = strT (b + 2) → a = b := by decide +kernel
theorem wdK_is {t : List Nat} {w : Nat} (hw : w < 20) (h : strT (w + 2) = t) : wdK t = 256 + w := by
  have e : fa_first (fun w => decide (strT (w + 2) = t)) 20 = w := by
    have hl := fa_first_le (fun w => decide (strT (w + 2) = t)) 20
    rcases Nat.lt_trichotomy (fa_first (fun w => decide (strT (w + 2) = t)) 20) w with q | q | q
    · have := fa_first_yes (fun w => decide (strT (w + 2) = t)) 20 (by omega)
      rw [decide_eq_true_iff] at this
      exact wd_inj _ (by omega) w hw (this.trans h.symm)
    · exact q
    · have := fa_first_no (fun w => decide (strT (w + 2) = t)) 20 w q
      exact absurd h (of_decide_eq_false this)
  unfold wdK
  rw [e, if_pos hw]
theorem wdK_no {t : List Nat} (h : ∀ w, w < 20 → strT (w + 2) ≠ t) : wdK t = 1 := by
  unfold wdK
  rw [if_neg (fun q => ?_)]
  have := fa_first_yes (fun w => decide (strT (w + 2) = t)) 20 q
  exact h _ q (of_decide_eq_true this)
def nmV (tp : Nat → Nat) (p : Nat) : Nat → Nat
  | 0 => 0
  | k + 1 => 10 * nmV tp p k + (tp (p + k) - 48)
def tkK (tp : Nat → Nat) (tl p : Nat) : Nat := if p < tl then (if ltr (tp p) = true then wdK (txt tp p (rnE ltr tp tl p - p)) else if dgt (tp p) = true then (if rnE dgt tp tl p - p ≤ 4 then 2 else 1) else if sgn (tp p) = true then tp p else 1) else 0
def tkV (tp : Nat → Nat) (tl p : Nat) : Nat := if p < tl ∧ dgt (tp p) = true then nmV tp p (if rnE dgt tp tl p - p < 4 then rnE dgt tp tl p - p else 4) else 0
def tkN (tp : Nat → Nat) (tl p : Nat) : Nat := if ltr (tp p) = true then rnE ltr tp tl p else if dgt (tp p) = true then rnE dgt tp tl p else p + 1
/-- where the m-th token begins -/
def tpo (tp : Nat → Nat) (tl : Nat) : Nat → Nat
  | 0 => rnE blnk tp tl 0
  | m + 1 => if tpo tp tl m < tl then rnE blnk tp tl (tkN tp tl (tpo tp tl m)) else tl
theorem tkN_s {tp : Nat → Nat} {tl p : Nat} (hp : p < tl) : p < tkN tp tl p ∧ tkN tp tl p ≤ tl := by
  unfold tkN
  by_cases a : ltr (tp p) = true
  · rw [if_pos a]
    obtain ⟨x1, x2, x3, x4⟩ := rnE_s (P := ltr) (tp := tp) (tl := tl) (p := p) (by omega)
    refine ⟨?_, x2⟩
    rcases Nat.lt_or_ge p (rnE ltr tp tl p) with q | q
    · exact q
    · have e : rnE ltr tp tl p = p := by omega
      have := x4 (by omega)
      rw [e, a] at this; cases this
  · rw [if_neg a]
    by_cases b : dgt (tp p) = true
    · rw [if_pos b]
      obtain ⟨x1, x2, x3, x4⟩ := rnE_s (P := dgt) (tp := tp) (tl := tl) (p := p) (by omega)
      refine ⟨?_, x2⟩
      rcases Nat.lt_or_ge p (rnE dgt tp tl p) with q | q
      · exact q
      · have e : rnE dgt tp tl p = p := by omega
        have := x4 (by omega)
        rw [e, b] at this; cases this
    · rw [if_neg b]; omega
theorem tpo_s {tp : Nat → Nat} {tl : Nat} : ∀ m, tpo tp tl m ≤ tl ∧ (tpo tp tl m < tl → blnk (tp (tpo tp tl m)) = false ∧ tpo tp tl m < tpo tp tl (m + 1)) ∧ (m ≤ tpo tp tl m ∨ tpo tp tl m = tl) := by
  intro m
  have nx : tpo tp tl m < tl → tpo tp tl m < tpo tp tl (m + 1) := fun h => by
    have := tkN_s (tp := tp) h
    have := rnE_s (P := blnk) (tp := tp) (tl := tl) (p := tkN tp tl (tpo tp tl m)) (by omega)
    show _ < (if tpo tp tl m < tl then rnE blnk tp tl (tkN tp tl (tpo tp tl m)) else tl)
    rw [if_pos h]; omega
  have bl : tpo tp tl m ≤ tl ∧ (tpo tp tl m < tl → blnk (tp (tpo tp tl m)) = false) := by
    cases m with
    | zero =>
      obtain ⟨a, b, c, d⟩ := rnE_s (P := blnk) (tp := tp) (tl := tl) (p := 0) (Nat.zero_le _)
      exact ⟨b, d⟩
    | succ m =>
      unfold tpo
      by_cases h : tpo tp tl m < tl
      · rw [if_pos h]
        have := tkN_s (tp := tp) h
        obtain ⟨a, b, c, d⟩ := rnE_s (P := blnk) (tp := tp) (tl := tl) (p := tkN tp tl (tpo tp tl m)) (by omega)
        exact ⟨b, d⟩
      · rw [if_neg h]; exact ⟨Nat.le_refl _, fun q => by omega⟩
  refine ⟨bl.1, fun h => ⟨bl.2 h, nx h⟩, ?_⟩
  have le : ∀ m, m ≤ tpo tp tl m ∨ tpo tp tl m = tl := fun m => by
    induction m with
    | zero => exact .inl (Nat.zero_le _)
    | succ m ih =>
      by_cases h : tpo tp tl m < tl
      · left
        have k := tkN_s (tp := tp) h
        have r := rnE_s (P := blnk) (tp := tp) (tl := tl) (p := tkN tp tl (tpo tp tl m)) (by omega)
        have e : tpo tp tl (m + 1) = rnE blnk tp tl (tkN tp tl (tpo tp tl m)) := by rw [tpo, if_pos h]
        rw [e]
        rcases ih with q | q
        · omega
        · omega
      · right; rw [tpo, if_neg h]
  exact le m
/-- how many tokens stand before the end -/
def tkT (tp : Nat → Nat) (tl : Nat) : Nat := fa_first (fun m => decide (tpo tp tl m = tl)) (tl + 1)
theorem tkT_s {tp : Nat → Nat} {tl : Nat} : tkT tp tl ≤ tl ∧ tpo tp tl (tkT tp tl) = tl ∧ ∀ m, m < tkT tp tl → tpo tp tl m < tl := by
  have lt : tkT tp tl < tl + 1 := by
    have hl := fa_first_le (fun m => decide (tpo tp tl m = tl)) (tl + 1)
    rcases Nat.lt_or_ge (tkT tp tl) (tl + 1) with q | q
    · exact q
    · have := fa_first_no (fun m => decide (tpo tp tl m = tl)) (tl + 1) tl (by unfold tkT at q; omega)
      have no : ¬ tpo tp tl tl = tl := of_decide_eq_false this
      have s := tpo_s (tp := tp) (tl := tl) tl
      rcases s.2.2 with w | w
      · exact absurd (by omega) no
      · exact absurd w no
  have y := fa_first_yes (fun m => decide (tpo tp tl m = tl)) (tl + 1) lt
  refine ⟨by omega, of_decide_eq_true y, fun m hm => ?_⟩
  have := fa_first_no (fun m => decide (tpo tp tl m = tl)) (tl + 1) m hm
  have n : ¬ tpo tp tl m = tl := of_decide_eq_false this
  have := (tpo_s (tp := tp) (tl := tl) m).1
  omega
