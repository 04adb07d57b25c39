/-! ===== snakeCell: the class ===== -/
def snF (F i : Nat) : Nat := if (pl F i / 8) % 2 = 0 then i else 2 * num F (8 * (pl F i / 8)) + (num F (8 * (pl F i / 8) + 8) - num F (8 * (pl F i / 8))) - 1 - i
theorem row_pop {F q : Nat} : pop (F / 2 ^ q &&& 255) = num F (q + 8) - num F q := by
  have e : pop (F / 2 ^ q &&& 255) = num (F / 2 ^ q) 8 := pop_mask (F := F / 2 ^ q) (q := 8) (by decide)
  rw [e]
  unfold num
  rw [fb_ct_split, Nat.add_sub_cancel_left]
  exact fb_ct_cong (fun k _ => by rw [Nat.testBit_div_two_pow]; congr 1; omega)
theorem num_row {F i : Nat} (hi : i < pop F) : num F (8 * (pl F i / 8)) ≤ i ∧ i < num F (8 * (pl F i / 8) + 8) := by
  obtain ⟨p1, p2, p3⟩ := pl_spec hi
  unfold num at *
  have a := fb_ct_mono F.testBit (m := 8 * (pl F i / 8)) (n := pl F i) (by omega)
  have b := fb_ct_mono F.testBit (m := pl F i + 1) (n := 8 * (pl F i / 8) + 8) (by omega)
  rw [fb_ct_succ, if_pos p2] at b
  omega
theorem c_snake {X : Nat × (Nat → Int32)} {d : Nat} {I : Nat → Nat → Int32} {J : Nat → Nat → Int64} {F i : Nat} (hd : 3 ≤ d) (hW : WG (mk I J) 145 F) (hi : i < pop F) : callF X d 16 [.ref 140, .int (nI i)] (mk I J) = some (some (.int (nI (snF F i))), mk I J) := by
  obtain ⟨g1, g2, g3, g4, g5, g6, g7⟩ := hW
  have g4 : J 145 0 = lN F := g4
  have g6 : I 147 i = nI (pl F i) := g6 i hi
  have i24 : i < 24 := by omega
  have p1 := (pl_spec hi).1
  have nr := num_row hi
  obtain ⟨y, ey⟩ : ∃ y, y = pl F i / 8 := ⟨_, rfl⟩
  have y8 : y < 8 := by omega
  unfold snF
  rw [← ey] at nr
  rw [← ey]
  have l1 : num F (8 * y) ≤ 64 := Nat.le_trans (fb_ct_le _ _) (by omega)
  have l2 : num F (8 * y + 8) ≤ 64 := Nat.le_trans (fb_ct_le _ _) (by omega)
  have er := n_rem (a := y) (m := 2) (by omega) (by omega) (by omega)
  have b3 : ¬ (nI 2 : Int32) = 0 := by decide +kernel
  have yo := fun M => s_yOf (X := X) (d := d - 1) (M := M) (p := pl F i) (by omega) (by omega)
  rw [← ey] at yo
  obtain ⟨d, rfl⟩ : ∃ d', d = d' + 1 := ⟨d - 1, by omega⟩
  rw [Nat.add_sub_cancel] at yo
  refine callF_at (by omega) (by decide) (Nat.le_of_ble_eq_true rfl) (fun d' hd' => ?_)
  obtain rfl : d = d' := by omega
  show Ev X d 16 0 [.ref 140, .int (nI i), .retAddr 0, .retAddr 0, .retAddr 0] [] (mk I J) _
  have m2 : y % 2 < 2 := Nat.mod_lt _ (by decide)
  by_cases z : y % 2 = 0
  · rw [z] at er
    rw [if_pos z]
    simp (disch := first | omega | assumption | exact rfl) only [U_16_0, U_16_1, XX, QQ, WW, KK, QX, SHs, RRs, Nat.reduceAdd, Nat.reduceMul, Nat.reduceLeDiff, Nat.reduceEqDiff, List.length_cons, List.length_nil, decide_true, decide_false, Bool.true_and, Bool.and_true, Bool.false_and, Bool.and_false, false_and, and_false, Bool.false_eq_true, Bool.true_eq_false, reduceCtorEq, eq_self, if_true, if_false, true_and, and_true, not_true_eq_false, not_false_eq_true, if_pos, if_neg, z_ite_not, false_or, or_false, true_or, or_true, SWs, swk_0, swk_1, g6, yo, er, b3]
  · rw [if_neg z]
    have h1 : 1 ≤ 1 * 2 ^ (8 * y) := by rw [Nat.one_mul]; exact Nat.two_pow_pos _
    have h2 : F &&& (1 * 2 ^ (8 * y) - 1) < 2 ^ 64 := Nat.lt_of_le_of_lt Nat.and_le_left g2
    have h3 : F / 2 ^ (8 * y) &&& 255 < 2 ^ 64 := Nat.lt_of_le_of_lt Nat.and_le_right (by decide)
    have e1 : pop (F &&& (1 * 2 ^ (8 * y) - 1)) = num F (8 * y) := by rw [Nat.one_mul, pop_mask (by omega)]
    have e2 := row_pop (F := F) (q := 8 * y)
    obtain ⟨A, eA⟩ : ∃ A, A = num F (8 * y) := ⟨_, rfl⟩
    obtain ⟨C, eC⟩ : ∃ C, C = num F (8 * y + 8) := ⟨_, rfl⟩
    rw [← eA] at e1 e2 nr l1
    rw [← eC] at e2 nr l2
    rw [← eA, ← eC]
    have s8 : 8 * y < 64 := by omega
    simp (disch := first | omega | assumption | exact rfl) only [U_16_0, U_16_2, XX, QQ, WW, KK, QX, SHs, RRs, Nat.reduceAdd, Nat.reduceMul, Nat.reduceLeDiff, Nat.reduceEqDiff, List.length_cons, List.length_nil, decide_true, decide_false, Bool.true_and, Bool.and_true, Bool.false_and, Bool.and_false, false_and, and_false, Bool.false_eq_true, Bool.true_eq_false, reduceCtorEq, eq_self, if_true, if_false, true_and, and_true, not_true_eq_false, not_false_eq_true, if_pos, if_neg, z_ite_not, false_or, or_false, true_or, or_true, SWs, swk_0, swk_1, g6, g4, yo, er, b3, z, fb_andL, s_bcL, e1, e2]
