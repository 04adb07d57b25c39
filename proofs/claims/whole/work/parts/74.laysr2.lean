/-! ===== layings: the reference tries all ===== -/
def RI (Ib : Nat → Nat → Int32) (n F1 : Nat) (B1 : Nat → Int32) (I : Nat → Nat → Int32) (s : LyS) : Prop := FR Ib I ∧ I 177 26 = nI (ins F1 B1) ∧ (∀ b, b < 24 → I 186 b = nI (nr F1 B1 b)) ∧ I 177 37 = (if s.1 = 25 then -1 else nI s.1) ∧ (s.1 ≤ 24 → I 177 40 = nI s.2.1 ∧ ∀ i, i < n → I 196 i = s.2.2.2.2 i) ∧ I 177 38 = nI s.2.2.1 ∧ I 177 39 = s.2.2.2.1 ∧ s.1 ≤ 25 ∧ s.2.1 ≤ 800 ∧ s.2.2.1 ≤ 800
def cpP (f g : Nat → Int32) (i : Nat) : Nat → Int32 := fun j => if j < i then f j else g j
theorem cpP_0 {f g : Nat → Int32} : cpP f g 0 = g := by funext j; unfold cpP; rw [if_neg (by omega)]
theorem cpP_s {f g : Nat → Int32} {i : Nat} : va_up (cpP f g i) i (f i) = cpP f g (i + 1) := by
  funext j; unfold va_up cpP
  by_cases z : j = i
  · rw [if_pos z, if_pos (by omega), z]
  · rw [if_neg z]
    by_cases y : j < i
    · rw [if_pos y, if_pos (by omega)]
    · rw [if_neg y, if_neg (by omega)]
theorem n_add0 {x : Int32} : x + nI 0 = x := by rw [show (nI 0 : Int32) = 0 from rfl, Int32.add_zero]
section LAYR
variable {X : Nat × (Nat → Int32)} {Ib : Nat → Nat → Int32} {J : Nat → Nat → Int64} {n be F1 : Nat} {B1 : Nat → Int32} {FS al : Nat} {mks : Nat → Nat} {sh : Nat}
theorem r_note {d : Nat} {I : Nat → Nat → Int32} {B : Nat → Int32} {s : LyS} {lf : Int32} (hd : 6 ≤ d) (hsh : sh < 6) (hn : n ≤ 7) (hp : pop FS = n) (hR : RSh (Ib 178) sh FS) (hal : Ib 178 1 = nI al) (hal2 : al < 2) (hbe : Ib 178 2 = nI be) (hbe2 : be ≤ 24) (hm : ∀ k, k < 24 → Ib 178 (10 + k) = nI (mks k)) (hm4 : ∀ k, k < 24 → mks k < 4) (hC : RI Ib n F1 B1 I s) (hB : ∀ i, i < n → I 188 i = B i) (hW : WB (I 188) n) :
    ∃ I', callF X d 245 [.ref 177, .int (nI sh), .int (nI n), .int lf] (mk I J) = some (none, mk I' J) ∧ RI Ib n F1 B1 I' (fL be F1 B1 FS al mks B s) ∧ I' 188 = I 188 := by
  obtain ⟨fb, kb, mo, gd, bt⟩ := s
  obtain ⟨c1, c2, c3, c4, c5, c6, c7, c8, c9, c10⟩ := hC
  dsimp only at c4 c5 c6 c7 c8 c9 c10
  have e178 : I 178 = Ib 178 := c1.2.1
  obtain ⟨d, rfl⟩ : ∃ d', d = d' + 1 := ⟨d - 1, by omega⟩
  obtain ⟨I1, w, f4, f5, ff, fk⟩ := r_reckons (X := X) (d := d) (J := J) (I := I) (by omega) hsh (by rw [e178]; exact hR) (by rw [hp]; exact hW) c2 c3 (by rw [e178]; exact hal) hal2 (by rw [e178]; exact hm) hm4
  have e1 : badS F1 B1 FS (I 188) al mks = badS F1 B1 FS B al mks := badS_cong (fun _ _ => rfl) (fun i hi => hB i (by omega))
  have e2 : twi F1 B1 FS (I 188) = twi F1 B1 FS B := twi_cong (fun _ _ => rfl) (fun i hi => hB i (by omega))
  rw [e1] at f4
  rw [e2] at f5
  have b1 := bad_le (F1 := F1) (B1 := B1) (FS := FS) (B := B) (al := al) (mks := mks)
  have b2 := twi_l8 (F1 := F1) (B1 := B1) (FS := FS) (B := B)
  unfold fL
  obtain ⟨bd, hbd⟩ : ∃ bd, bd = pop (badS F1 B1 FS B al mks) := ⟨_, rfl⟩
  obtain ⟨kp, hkp⟩ : ∃ kp, kp = twi F1 B1 FS B / 2 := ⟨_, rfl⟩
  rw [← hbd] at f4 b1
  rw [← hkp] at f5 b2
  rw [← hbd, ← hkp]
  have fin : ∀ (h : Nat → Int32) (g : Nat → Int32), (∀ k, k < 27 → h k = I1 177 k) → h 37 = nI (nst be bd kp B (fb, kb, mo, gd, bt)).1 → h 40 = nI (nst be bd kp B (fb, kb, mo, gd, bt)).2.1 → h 38 = nI (nst be bd kp B (fb, kb, mo, gd, bt)).2.2.1 → h 39 = (nst be bd kp B (fb, kb, mo, gd, bt)).2.2.2.1 → (∀ i, i < n → g i = (nst be bd kp B (fb, kb, mo, gd, bt)).2.2.2.2 i) → RI Ib n F1 B1 (va_up (va_up I1 177 h) 196 g) (nst be bd kp B (fb, kb, mo, gd, bt)) := by
    intro h g h5 h6 h7 h8 h9 hg
    have a1 : ∀ a, a ≠ 177 → a ≠ 196 → a ≠ 187 → va_up (va_up I1 177 h) 196 g a = I a := fun a x y z => by rw [vu_ne y, vu_ne x, ff a x z]
    have a2 : va_up (va_up I1 177 h) 196 g 177 = h := by rw [vu_ne (by decide), vu_eq]
    have a3 : va_up (va_up I1 177 h) 196 g 196 = g := by rw [vu_eq]
    have nb := nst_b (be := be) (kp := kp) (B := B) (s := (fb, kb, mo, gd, bt)) b1
    refine ⟨FR_trans c1 ⟨fun a ha => a1 a (by omega) (by omega) (by omega), a1 _ (by decide) (by decide) (by decide), a1 _ (by decide) (by decide) (by decide), a1 _ (by decide) (by decide) (by decide), fun k hk => by rw [a2, h5 k (by omega), fk k (by omega) (by omega) (by omega)]⟩, ?_, fun b hb => ?_, ?_, fun _ => ⟨?_, fun i hi => ?_⟩, ?_, ?_, ?_, ?_, ?_⟩
    · rw [a2, h5 26 (by decide), fk _ (by decide) (by decide) (by decide)]; exact c2
    · rw [a1 _ (by decide) (by decide) (by decide)]; exact c3 b hb
    · rw [a2, h6, if_neg (by omega)]
    · rw [a2]; exact h7
    · rw [a3]; exact hg i hi
    · rw [a2]; exact h8
    · rw [a2]; exact h9
    · omega
    · unfold nst; dsimp only; split <;> omega
    · unfold nst; dsimp only; split <;> omega
  obtain ⟨mx, hmx⟩ : ∃ mx, mx = (if mo < kp then kp else mo) := ⟨_, rfl⟩
  obtain ⟨gx, hgx⟩ : ∃ gx : Int32, gx = (if bd ≤ be then gd + nI 1 else gd) := ⟨_, rfl⟩
  have r37 : I1 177 37 = (if fb = 25 then -1 else nI fb) := by rw [fk _ (by decide) (by decide) (by decide)]; exact c4
  have r38 : I1 177 38 = nI mo := by rw [fk _ (by decide) (by decide) (by decide)]; exact c6
  have r39 : I1 177 39 = gd := by rw [fk _ (by decide) (by decide) (by decide)]; exact c7
  have r2 : I1 178 2 = nI be := by rw [ff _ (by decide) (by decide), e178]; exact hbe
  have s1 : I 178 (70 + sh) = nI n := by rw [e178, hR.2.1, hp]
  have i188 : I1 188 = I 188 := ff _ (by decide) (by decide)
  have tail : ∃ I', Ev X d 245 7 [.ref 177, .int (nI sh), .int (nI n), .int lf, .retAddr 0] [.int (nI mx), .ref 177] (mk (va_up I1 177 (va_up (I1 177) 39 gx)) J) (none, mk I' J) ∧ RI Ib n F1 B1 I' (nst be bd kp B (fb, kb, mo, gd, bt)) ∧ I' 188 = I 188 := by
    by_cases z : bd < fb ∨ (bd = fb ∧ kb < kp)
    · refine ⟨va_up (va_up I1 177 (va_up (va_up (va_up (va_up (I1 177) 39 gx) 38 (nI mx)) 37 (nI bd)) 40 (nI kp))) 196 (cpP (I 188) (I1 196) n), ?_, fin _ _ ?_ ?_ ?_ ?_ ?_ ?_, ?_⟩
      · have lp : Ev X d 245 13 [.ref 177, .int (nI sh), .int (nI n), .int lf, .int (nI 0)] [] (mk (va_up I1 177 (va_up (va_up (va_up (va_up (I1 177) 39 gx) 38 (nI mx)) 37 (nI bd)) 40 (nI kp))) J) (none, mk (va_up (va_up I1 177 (va_up (va_up (va_up (va_up (I1 177) 39 gx) 38 (nI mx)) 37 (nI bd)) 40 (nI kp))) 196 (cpP (I 188) (I1 196) n)) J) := by
          obtain ⟨h, eh⟩ : ∃ h, h = va_up (va_up (va_up (va_up (I1 177) 39 gx) 38 (nI mx)) 37 (nI bd)) 40 (nI kp) := ⟨_, rfl⟩
          rw [← eh]
          refine lpI (n := n) (P := fun i => Ev X d 245 13 [.ref 177, .int (nI sh), .int (nI n), .int lf, .int (nI i)] [] (mk (va_up (va_up I1 177 h) 196 (cpP (I 188) (I1 196) i)) J) (none, mk (va_up (va_up I1 177 h) 196 (cpP (I 188) (I1 196) n)) J)) ?_ ?_ (fun L => ?_)
          · rw [U_245_13]
            simp (disch := first | omega | assumption | exact rfl) only [U_245_15, XX, QQ, WW, KK, QX, SHs, RRs, Nat.reduceAdd, Nat.reduceMul, Nat.reduceLeDiff, Nat.reduceEqDiff, List.length_cons, List.length_nil, decide_true, decide_false, Bool.true_and, Bool.and_true, Bool.false_and, Bool.and_false, false_and, and_false, Bool.false_eq_true, Bool.true_eq_false, reduceCtorEq, eq_self, if_true, if_false, true_and, and_true, not_true_eq_false, not_false_eq_true, if_pos, if_neg, z_ite_not, false_or, or_false, true_or, or_true, SWs, swk_0, swk_1]
          · intro i hi ih
            rw [← cpP_s] at ih
            rw [U_245_13]
            simp (disch := first | omega | assumption | exact rfl) only [U_245_14, XX, QQ, WW, KK, QX, SHs, RRs, Nat.reduceAdd, Nat.reduceMul, Nat.reduceLeDiff, Nat.reduceEqDiff, List.length_cons, List.length_nil, decide_true, decide_false, Bool.true_and, Bool.and_true, Bool.false_and, Bool.and_false, false_and, and_false, Bool.false_eq_true, Bool.true_eq_false, reduceCtorEq, eq_self, if_true, if_false, true_and, and_true, not_true_eq_false, not_false_eq_true, if_pos, if_neg, z_ite_not, false_or, or_false, true_or, or_true, SWs, swk_0, swk_1, i188]
            exact ih
          · rw [cpP_0] at L
            have e : va_up (va_up I1 177 h) 196 (I1 196) = va_up I1 177 h := vu_same (vu_ne (by decide))
            rw [e] at L; exact L
        by_cases z0 : fb = 25
        · rw [if_pos z0] at r37
          simp (disch := first | omega | assumption | exact rfl) only [U_245_7, U_245_12, XX, QQ, WW, KK, QX, SHs, RRs, Nat.reduceAdd, Nat.reduceMul, Nat.reduceLeDiff, Nat.reduceEqDiff, List.length_cons, List.length_nil, decide_true, decide_false, Bool.true_and, Bool.and_true, Bool.false_and, Bool.and_false, false_and, and_false, Bool.false_eq_true, Bool.true_eq_false, reduceCtorEq, eq_self, if_true, if_false, true_and, and_true, not_true_eq_false, not_false_eq_true, if_pos, if_neg, z_ite_not, false_or, or_false, true_or, or_true, SWs, swk_0, swk_1, f4, f5, r37]
          exact lp
        · rw [if_neg z0] at r37
          have r40 : I1 177 40 = nI kb := by rw [fk _ (by decide) (by decide) (by decide)]; exact (c5 (by omega)).1
          by_cases z1 : bd < fb
          · simp (disch := first | omega | assumption | exact rfl) only [U_245_7, U_245_8, U_245_9, U_245_12, XX, QQ, WW, KK, QX, SHs, RRs, Nat.reduceAdd, Nat.reduceMul, Nat.reduceLeDiff, Nat.reduceEqDiff, List.length_cons, List.length_nil, decide_true, decide_false, Bool.true_and, Bool.and_true, Bool.false_and, Bool.and_false, false_and, and_false, Bool.false_eq_true, Bool.true_eq_false, reduceCtorEq, eq_self, if_true, if_false, true_and, and_true, not_true_eq_false, not_false_eq_true, if_pos, if_neg, z_ite_not, false_or, or_false, true_or, or_true, SWs, swk_0, swk_1, f4, f5, r37, r40]
            exact lp
          · have z2 : bd = fb := by omega
            have z3 : kb < kp := by omega
            simp (disch := first | omega | assumption | exact rfl) only [U_245_7, U_245_8, U_245_9, U_245_10, U_245_12, XX, QQ, WW, KK, QX, SHs, RRs, Nat.reduceAdd, Nat.reduceMul, Nat.reduceLeDiff, Nat.reduceEqDiff, List.length_cons, List.length_nil, decide_true, decide_false, Bool.true_and, Bool.and_true, Bool.false_and, Bool.and_false, false_and, and_false, Bool.false_eq_true, Bool.true_eq_false, reduceCtorEq, eq_self, if_true, if_false, true_and, and_true, not_true_eq_false, not_false_eq_true, if_pos, if_neg, z_ite_not, false_or, or_false, true_or, or_true, SWs, swk_0, swk_1, f4, f5, r37, r40]
            exact lp
      · intro k hk; rw [vu_ne (by omega), vu_ne (by omega), vu_ne (by omega), vu_ne (by omega)]
      · rw [vu_ne (by decide), vu_eq]; unfold nst; dsimp only; rw [if_pos z]
      · rw [vu_eq]; unfold nst; dsimp only; rw [if_pos z]
      · rw [vu_ne (by decide), vu_ne (by decide), vu_eq]; exact congrArg nI hmx
      · rw [vu_ne (by decide), vu_ne (by decide), vu_ne (by decide), vu_eq]; exact hgx
      · intro i hi
        unfold cpP
        rw [if_pos hi, hB i hi]; unfold nst; dsimp only; rw [if_pos z]
      · rw [vu_ne (by decide), vu_ne (by decide), i188]
    · have z0 : ¬ fb = 25 := fun q => z (.inl (by omega))
      have z1 : ¬ bd < fb := fun q => z (.inl q)
      have hle : fb ≤ 24 := by omega
      rw [if_neg z0] at r37
      have r40 : I1 177 40 = nI kb := by rw [fk _ (by decide) (by decide) (by decide)]; exact (c5 hle).1
      refine ⟨va_up (va_up I1 177 (va_up (va_up (I1 177) 39 gx) 38 (nI mx))) 196 (I1 196), ?_, ?_, ?_⟩
      · have e : va_up (va_up I1 177 (va_up (va_up (I1 177) 39 gx) 38 (nI mx))) 196 (I1 196) = va_up I1 177 (va_up (va_up (I1 177) 39 gx) 38 (nI mx)) := vu_same (vu_ne (by decide))
        rw [e]
        by_cases z2 : bd = fb
        · have z3 : ¬ kb < kp := fun q => z (.inr ⟨z2, q⟩)
          simp (disch := first | omega | assumption | exact rfl) only [U_245_7, U_245_8, U_245_9, U_245_10, U_245_11, XX, QQ, WW, KK, QX, SHs, RRs, Nat.reduceAdd, Nat.reduceMul, Nat.reduceLeDiff, Nat.reduceEqDiff, List.length_cons, List.length_nil, decide_true, decide_false, Bool.true_and, Bool.and_true, Bool.false_and, Bool.and_false, false_and, and_false, Bool.false_eq_true, Bool.true_eq_false, reduceCtorEq, eq_self, if_true, if_false, true_and, and_true, not_true_eq_false, not_false_eq_true, if_pos, if_neg, z_ite_not, false_or, or_false, true_or, or_true, SWs, swk_0, swk_1, f4, f5, r37, r40]
        · simp (disch := first | omega | assumption | exact rfl) only [U_245_7, U_245_8, U_245_11, XX, QQ, WW, KK, QX, SHs, RRs, Nat.reduceAdd, Nat.reduceMul, Nat.reduceLeDiff, Nat.reduceEqDiff, List.length_cons, List.length_nil, decide_true, decide_false, Bool.true_and, Bool.and_true, Bool.false_and, Bool.and_false, false_and, and_false, Bool.false_eq_true, Bool.true_eq_false, reduceCtorEq, eq_self, if_true, if_false, true_and, and_true, not_true_eq_false, not_false_eq_true, if_pos, if_neg, z_ite_not, false_or, or_false, true_or, or_true, SWs, swk_0, swk_1, f4, f5, r37, r40]
      · refine fin _ _ ?_ ?_ ?_ ?_ ?_ ?_
        · intro k hk; rw [vu_ne (by omega), vu_ne (by omega)]
        · rw [vu_ne (by decide), vu_ne (by decide), r37]; unfold nst; dsimp only; rw [if_neg z]
        · rw [vu_ne (by decide), vu_ne (by decide), r40]; unfold nst; dsimp only; rw [if_neg z]
        · rw [vu_eq]; exact congrArg nI hmx
        · rw [vu_ne (by decide), vu_eq]; exact hgx
        · intro i hi
          rw [ff _ (by decide) (by decide), (c5 hle).2 i hi]; unfold nst; dsimp only; rw [if_neg z]
      · rw [vu_ne (by decide), vu_ne (by decide), i188]
  obtain ⟨I', t1, t2, t3⟩ := tail
  refine ⟨I', ?_, t2, t3⟩
  refine callF_at (by omega) (by decide) (Nat.le_of_ble_eq_true rfl) (fun d' hd' => ?_)
  obtain rfl : d = d' := by omega
  show Ev X d 245 0 [.ref 177, .int (nI sh), .int (nI n), .int lf, .retAddr 0] [] (mk I J) _
  by_cases z : bd ≤ be
  · rw [if_pos z] at hgx
    rw [hgx] at t1
    by_cases y : mo < kp
    · rw [if_pos y] at hmx
      rw [hmx] at t1
      simp (disch := first | omega | assumption | exact rfl) only [U_245_0, U_245_1, U_245_2, U_245_3, U_245_4, U_245_5, U_245_6, XX, QQ, WW, KK, QX, SHs, RRs, Nat.reduceAdd, Nat.reduceMul, Nat.reduceLeDiff, Nat.reduceEqDiff, List.length_cons, List.length_nil, decide_true, decide_false, Bool.true_and, Bool.and_true, Bool.false_and, Bool.and_false, false_and, and_false, Bool.false_eq_true, Bool.true_eq_false, reduceCtorEq, eq_self, if_true, if_false, true_and, and_true, not_true_eq_false, not_false_eq_true, if_pos, if_neg, z_ite_not, false_or, or_false, true_or, or_true, SWs, swk_0, swk_1, s1, w, f4, f5, r2, r38, r39]
      exact t1
    · rw [if_neg y] at hmx
      rw [hmx] at t1
      simp (disch := first | omega | assumption | exact rfl) only [U_245_0, U_245_1, U_245_2, U_245_3, U_245_4, U_245_5, U_245_6, XX, QQ, WW, KK, QX, SHs, RRs, Nat.reduceAdd, Nat.reduceMul, Nat.reduceLeDiff, Nat.reduceEqDiff, List.length_cons, List.length_nil, decide_true, decide_false, Bool.true_and, Bool.and_true, Bool.false_and, Bool.and_false, false_and, and_false, Bool.false_eq_true, Bool.true_eq_false, reduceCtorEq, eq_self, if_true, if_false, true_and, and_true, not_true_eq_false, not_false_eq_true, if_pos, if_neg, z_ite_not, false_or, or_false, true_or, or_true, SWs, swk_0, swk_1, s1, w, f4, f5, r2, r38, r39]
      exact t1
  · rw [if_neg z] at hgx
    rw [hgx] at t1
    by_cases y : mo < kp
    · rw [if_pos y] at hmx
      rw [hmx] at t1
      simp (disch := first | omega | assumption | exact rfl) only [U_245_0, U_245_1, U_245_2, U_245_3, U_245_4, U_245_5, U_245_6, XX, QQ, WW, KK, QX, SHs, RRs, Nat.reduceAdd, Nat.reduceMul, Nat.reduceLeDiff, Nat.reduceEqDiff, List.length_cons, List.length_nil, decide_true, decide_false, Bool.true_and, Bool.and_true, Bool.false_and, Bool.and_false, false_and, and_false, Bool.false_eq_true, Bool.true_eq_false, reduceCtorEq, eq_self, if_true, if_false, true_and, and_true, not_true_eq_false, not_false_eq_true, if_pos, if_neg, z_ite_not, false_or, or_false, true_or, or_true, SWs, swk_0, swk_1, s1, w, f4, f5, r2, r38, r39, n_add0]
      exact t1
    · rw [if_neg y] at hmx
      rw [hmx] at t1
      simp (disch := first | omega | assumption | exact rfl) only [U_245_0, U_245_1, U_245_2, U_245_3, U_245_4, U_245_5, U_245_6, XX, QQ, WW, KK, QX, SHs, RRs, Nat.reduceAdd, Nat.reduceMul, Nat.reduceLeDiff, Nat.reduceEqDiff, List.length_cons, List.length_nil, decide_true, decide_false, Bool.true_and, Bool.and_true, Bool.false_and, Bool.and_false, false_and, and_false, Bool.false_eq_true, Bool.true_eq_false, reduceCtorEq, eq_self, if_true, if_false, true_and, and_true, not_true_eq_false, not_false_eq_true, if_pos, if_neg, z_ite_not, false_or, or_false, true_or, or_true, SWs, swk_0, swk_1, s1, w, f4, f5, r2, r38, r39, n_add0]
      exact t1
end LAYR
