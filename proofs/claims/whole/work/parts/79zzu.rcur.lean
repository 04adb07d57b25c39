/-! ===== the reference at the m-th token ===== -/
theorem wdK_2 (t : List Nat) : wdK t ≠ 2 ∧ wdK t ≠ 0 := by
  unfold wdK
  split
  · exact ⟨by omega, by omega⟩
  · exact ⟨by decide, by decide⟩
theorem tkK_2 {tp : Nat → Nat} {tl p : Nat} (h : tkK tp tl p = 2) : p < tl ∧ dgt (tp p) = true := by
  unfold tkK at h
  by_cases a : p < tl
  · rw [if_pos a] at h
    by_cases b : ltr (tp p) = true
    · rw [if_pos b] at h; exact absurd h (wdK_2 _).1
    · rw [if_neg b] at h
      by_cases c : dgt (tp p) = true
      · exact ⟨a, c⟩
      · rw [if_neg c] at h
        by_cases e : sgn (tp p) = true
        · rw [if_pos e] at h
          have := sg_c e
          omega
        · rw [if_neg e] at h; cases h
  · rw [if_neg a] at h; cases h
def RCur (I : Nat → Nat → Int32) (tp : Nat → Nat) (tl : Nat) (md : Bool) (m : Nat) : Prop := I 177 13 = nI (if tpo tp tl m < tl then tkN tp tl (tpo tp tl m) else tl) ∧ I 177 14 = nI (rtk md (tkK tp tl (tpo tp tl m))) ∧ I 177 15 = nI (tpo tp tl m) ∧ (tkK tp tl (tpo tp tl m) = 2 → I 177 16 = nI (tkV tp tl (tpo tp tl m)))
theorem r_nextT {X : Nat × (Nat → Int32)} {d : Nat} {I : Nat → Nat → Int32} {J : Nat → Nat → Int64} {tp : Nat → Nat} {tl w m : Nat} (hd : 14 ≤ d) (hT : RTp I tp tl) (h9 : I 177 9 = nI w) (hw : w < 9) (hC : RCur I tp tl (decide (w < 6)) m) (hm : m ≤ tkT tp tl) : ∃ g, callF X d 168 [.ref 177] (mk I J) = some (none, mk (va_up I 177 g) J) ∧ RCur (va_up I 177 g) tp tl (decide (w < 6)) (if m < tkT tp tl then m + 1 else m) ∧ (∀ k, k ≠ 13 → k ≠ 14 → k ≠ 15 → k ≠ 16 → g k = I 177 k) := by
  obtain ⟨c1, c2, c3, c4⟩ := hC
  obtain ⟨t1, t2, t3⟩ := tkT_s (tp := tp) (tl := tl)
  obtain ⟨m', em⟩ : ∃ m', m' = if m < tkT tp tl then m + 1 else m := ⟨_, rfl⟩
  have key : tpo tp tl m' = rnE blnk tp tl (if tpo tp tl m < tl then tkN tp tl (tpo tp tl m) else tl) ∧ (if tpo tp tl m < tl then tkN tp tl (tpo tp tl m) else tl) ≤ tl := by
    by_cases z : m < tkT tp tl
    · have lt := t3 m z
      rw [em, if_pos z, if_pos lt, tpo, if_pos lt]
      exact ⟨rfl, (tkN_s lt).2⟩
    · have e : m = tkT tp tl := by omega
      rw [em, if_neg z, e, t2, if_neg (by omega), rnE_0 (Nat.le_refl _) (fun q => by omega)]
      exact ⟨rfl, Nat.le_refl _⟩
  rw [← em]
  obtain ⟨g, g1, g2, g3, g4, g5, g6⟩ := r_next0 (X := X) (d := d) (I := I) (J := J) (tp := tp) (tl := tl) (w := w) (p := tpo tp tl m') hd hT c1 key.2 h9 hw key.1
  refine ⟨g, g1, ⟨by rw [vu_eq]; exact g2, by rw [vu_eq]; exact g3, by rw [vu_eq]; exact g4, fun h => ?_⟩, g6⟩
  rw [vu_eq]
  obtain ⟨a, b⟩ := tkK_2 h
  exact g5 a b
