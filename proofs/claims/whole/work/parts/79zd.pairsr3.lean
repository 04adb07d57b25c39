/-! ===== pairs: the reference ===== -/
theorem r_pairs {X : Nat × (Nat → Int32)} {d : Nat} {I : Nat → Nat → Int32} {J : Nat → Nat → Int64} {F0 F1 n s a : Nat} {B : Nat → Int32} (hd : 5 ≤ d) (ha : a < 6) (hs : s < 6) (hR : RWl (I 178) a F0 B) (hS : RSh (I 178) s F1) (hn : n = fb_ct (isB B) (pop F0)) (h189 : ∀ m, m < n → I 189 m = B (kth (isB B) (pop F0) m)) (h192 : ∀ m, m < n → I 192 m = nI (kth (isB B) (pop F0) m)) :
    ∃ I', callF X d 221 [.ref 177, .int (nI a), .int (nI s), .int (nI n)] (mk I J) = some (none, mk I' J) ∧ I' 188 = (prs F0 B F1 (fillI 24 (-1) (I 188)) (pop F0)).2 ∧ ∀ x, x ≠ 188 → x ≠ 190 → x ≠ 191 → x ≠ 193 → I' x = I x := by
  obtain ⟨d, rfl⟩ : ∃ d', d = d' + 1 := ⟨d - 1, by omega⟩
  have h24 := hR.1
  have h24' := hS.1
  have n24 : n ≤ 24 := by have := fb_ct_le (isB B) (pop F0); omega
  have c1 : I 178 (70 + s) = nI (pop F1) := hS.2.1
  have s1 := r_couples (X := X) (d := d) (I := I) (J := J) (F := F0) (s := a) (a := 190) (e := 0) (n := n) (mem := isB B) (by omega) ha h24 hn rfl (by decide) (by decide) (.inr ⟨rfl, ⟨B, hR⟩, h192⟩)
  obtain ⟨Ia, eIa⟩ : ∃ x, x = va_up I 190 (rwM F0 (isB B) (cw F0 (isB B) (pop F0)) (I 190)) := ⟨_, rfl⟩
  rw [← eIa] at s1
  have fa : ∀ x, x ≠ 190 → Ia x = I x := fun x p => by rw [eIa, vu_ne p]
  have tt : pop F1 = fb_ct (fun _ => true) (pop F1) := (fb_ct_all.mpr (fun _ _ => rfl)).symm
  have s2 := r_couples (X := X) (d := d) (I := Ia) (J := J) (F := F1) (s := s) (a := 191) (e := 1) (n := pop F1) (mem := fun _ => true) (by omega) hs h24' tt rfl (by decide) (by decide) (.inl ⟨rfl, by rw [fa 178 (by decide)]; exact hS, rfl⟩)
  obtain ⟨Ib, eIb⟩ : ∃ x, x = va_up Ia 191 (rwM F1 (fun _ => true) (cw F1 (fun _ => true) (pop F1)) (Ia 191)) := ⟨_, rfl⟩
  rw [← eIb] at s2
  have fb : ∀ x, x ≠ 190 → x ≠ 191 → Ib x = I x := fun x p q => by rw [eIb, vu_ne q, fa x p]
  have em := r_empties (X := X) (d := d) (I := Ib) (J := J) (by omega)
  rw [fb 188 (by decide) (by decide)] at em
  have p2 := r_pairs2 (X := X) (d := d) (I := Ib) (J := J) (F0 := F0) (F1 := F1) (n := n) (s := s) (a := a) (B := B) (g0 := I 190) (g1 := Ia 191) (g3 := I 193) (base := fillI 24 (-1) (I 188)) h24 h24' rfl hn (fun m hm => by rw [fb 189 (by decide) (by decide)]; exact h189 m hm) (by rw [eIb, vu_ne (by decide), eIa, vu_eq]) (by rw [eIb, vu_eq])
  refine ⟨va_up (va_up Ib 188 (prs F0 B F1 (fillI 24 (-1) (I 188)) (pop F0)).2) 193 (plR F0 B (ldK F0 B (KP F0 (isB B) F1)) (I 193)), ?_, by rw [vu_ne (by decide : (188 : Nat) ≠ 193)]; exact vu_eq, fun x x1 x2 x3 x4 => by rw [vu_ne x4, vu_ne x1]; exact fb x x2 x3⟩
  refine callF_at (by omega) (by decide) (Nat.le_of_ble_eq_true rfl) (fun d' hd' => ?_)
  obtain rfl : d = d' := by omega
  show Ev X d 221 0 [.ref 177, .int (nI a), .int (nI s), .int (nI n), .retAddr 0, .retAddr 0, .retAddr 0] [] (mk I J) _
  have e193 : Ib 193 = I 193 := fb 193 (by decide) (by decide)
  obtain ⟨g, eg⟩ : ∃ g, g = fillI 24 (-1) (I 188) := ⟨_, rfl⟩
  rw [← eg] at em p2 ⊢
  obtain ⟨R, eR⟩ : ∃ R : Mem, R = mk (va_up (va_up Ib 188 (prs F0 B F1 g (pop F0)).2) 193 (plR F0 B (ldK F0 B (KP F0 (isB B) F1)) (I 193))) J := ⟨_, rfl⟩
  rw [← eR] at p2
  rw [← eR]
  have lp : ∀ u6 : Value, Ev X d 221 1 [.ref 177, .int (nI a), .int (nI s), .int (nI n), .int (nI (pop F1)), .int (nI 0), u6] [] (mk (va_up Ib 188 g) J) (none, R) := fun u6 => by
    refine lpI (n := n) (P := fun i => Ev X d 221 1 [.ref 177, .int (nI a), .int (nI s), .int (nI n), .int (nI (pop F1)), .int (nI i), u6] [] (mk (va_up (va_up Ib 188 g) 193 (fillI i (nI 0) (I 193))) J) (none, R)) ?_ ?_ (fun Q => by
      rw [fillI_0, vu_same (by rw [vu_ne (by decide)]; exact e193)] at Q; exact Q)
    · have e : plR F0 B (fun _ => false) (I 193) = fillI n (nI 0) (I 193) := by funext k; unfold plR fillI; rw [← hn]; rfl
      rw [e] at p2
      rw [U_221_1]
      simp (disch := first | omega | assumption | exact rfl) only [U_221_3, XX, QQ, WW, KK, QX, SHs, RRs, Nat.reduceAdd, Nat.reduceMul, Nat.reduceLeDiff, Nat.reduceEqDiff, List.length_cons, List.length_nil, decide_true, decide_false, Bool.true_and, Bool.and_true, Bool.false_and, Bool.and_false, false_and, and_false, Bool.false_eq_true, Bool.true_eq_false, reduceCtorEq, eq_self, if_true, if_false, true_and, and_true, not_true_eq_false, not_false_eq_true, if_pos, if_neg, z_ite_not, false_or, or_false, true_or, or_true, SWs, swk_0, swk_1]
      exact p2
    · intro i hi ih
      have i24 : i < 24 := by omega
      rw [← fillI_s] at ih
      rw [U_221_1]
      simp (disch := first | omega | assumption | exact rfl) only [U_221_2, XX, QQ, WW, KK, QX, SHs, RRs, Nat.reduceAdd, Nat.reduceMul, Nat.reduceLeDiff, Nat.reduceEqDiff, List.length_cons, List.length_nil, decide_true, decide_false, Bool.true_and, Bool.and_true, Bool.false_and, Bool.and_false, false_and, and_false, Bool.false_eq_true, Bool.true_eq_false, reduceCtorEq, eq_self, if_true, if_false, true_and, and_true, not_true_eq_false, not_false_eq_true, if_pos, if_neg, z_ite_not, false_or, or_false, true_or, or_true, SWs, swk_0, swk_1]
      exact ih
  simp (disch := first | omega | assumption | exact rfl) only [U_221_0, XX, QQ, WW, KK, QX, SHs, RRs, Nat.reduceAdd, Nat.reduceMul, Nat.reduceLeDiff, Nat.reduceEqDiff, List.length_cons, List.length_nil, decide_true, decide_false, Bool.true_and, Bool.and_true, Bool.false_and, Bool.and_false, false_and, and_false, Bool.false_eq_true, Bool.true_eq_false, reduceCtorEq, eq_self, if_true, if_false, true_and, and_true, not_true_eq_false, not_false_eq_true, if_pos, if_neg, z_ite_not, false_or, or_false, true_or, or_true, SWs, swk_0, swk_1, s1, c1, s2, em]
  exact lp _
