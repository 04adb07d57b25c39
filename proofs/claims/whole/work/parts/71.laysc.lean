/-! ===== layings: the class ===== -/
theorem vu_same {α : Type} {f : Nat → α} {a : Nat} {x : α} (h : f a = x) : va_up f a x = f := by rw [← h]; exact vu_id
/-- where the class stands between two layings -/
def CI (Ib : Nat → Nat → Int32) (J : Nat → Nat → Int64) (n be F1 : Nat) (B1 : Nat → Int32) (FS al : Nat) (mks : Nat → Nat) (L0 : Nat) (I : Nat → Nat → Int32) (s : LyS) : Prop := (∀ a, a < 161 ∨ 170 < a → I a = Ib a) ∧ WG (mk I J) 162 FS ∧ LN I 166 F1 B1 al mks ∧ (∀ i, n ≤ i → i < 24 → I 163 i = -1) ∧ (∀ j, j < n → I 169 j = nI (kth L0.testBit 24 j)) ∧ I 161 4 = nI n ∧ I 161 5 = nI be ∧ I 161 6 = nI s.1 ∧ I 161 7 = nI s.2.1 ∧ I 161 8 = nI s.2.2.1 ∧ I 161 9 = s.2.2.2.1 ∧ s.1 ≤ 25 ∧ s.2.1 ≤ 800 ∧ s.2.2.1 ≤ 800 ∧ (s.1 ≤ 24 → ∀ i, i < n → I 170 i = s.2.2.2.2 i)
section LAYC
variable {X : Nat × (Nat → Int32)} {Ib : Nat → Nat → Int32} {J : Nat → Nat → Int64} {n be F1 : Nat} {B1 : Nat → Int32} {FS al : Nat} {mks : Nat → Nat} {L0 : Nat}
theorem c_note {d : Nat} {I : Nat → Nat → Int32} {B : Nat → Int32} {s : LyS} (hd : 3 ≤ d) (hn : n ≤ 7) (hp : pop FS = n) (hbe : be ≤ 24) (hm4 : ∀ k, k < 24 → mks k < 4) (hC : CI Ib J n be F1 B1 FS al mks L0 I s) (hB : ∀ i, i < n → I 163 i = B i) (hW : WB (I 163) n) :
    ∃ I', callF X d 35 [.ref 161] (mk I J) = some (none, mk I' J) ∧ CI Ib J n be F1 B1 FS al mks L0 I' (fL be F1 B1 FS al mks B s) ∧ I' 163 = I 163 := by
  obtain ⟨fb, kb, mo, gd, bt⟩ := s
  obtain ⟨c1, c2, c3, c4, c5, c6, c7, c8, c9, c10, c11, c12, c13, c14, c15⟩ := hC
  dsimp only at c8 c9 c10 c11 c12 c13 c14 c15
  have w := fun d (hd : 2 ≤ d) => s_weigh (X := X) (d := d) hd NA_166 c3 c2 (by omega) (by rw [hp]; exact hW) hm4
  have e1 : badS F1 B1 FS (I (162 + 1)) al mks = badS F1 B1 FS B al mks := badS_cong (fun _ _ => rfl) (fun i hi => hB i (by omega))
  have e2 : twi F1 B1 FS (I (162 + 1)) = twi F1 B1 FS B := twi_cong (fun _ _ => rfl) (fun i hi => hB i (by omega))
  have b1 := bad_le (F1 := F1) (B1 := B1) (FS := FS) (B := B) (al := al) (mks := mks)
  have b2 := twi_l8 (F1 := F1) (B1 := B1) (FS := FS) (B := B)
  unfold Iwgh at w
  rw [e1, e2] at w
  unfold fL
  obtain ⟨bS, hbS⟩ : ∃ bS, bS = badS F1 B1 FS B al mks := ⟨_, rfl⟩
  rw [← hbS] at w b1
  rw [← hbS]
  obtain ⟨bd, hbd⟩ : ∃ bd, bd = pop bS := ⟨_, rfl⟩
  obtain ⟨kp, hkp⟩ : ∃ kp, kp = twi F1 B1 FS B / 2 := ⟨_, rfl⟩
  rw [← hbd, ← hkp] at w
  rw [← hbd] at b1
  rw [← hkp] at b2
  rw [← hbd, ← hkp]
  obtain ⟨I1, hI1⟩ : ∃ I1, I1 = va_up I 166 (va_up (va_up (va_up (I 166) 3 (nI bS)) 4 (nI bd)) 5 (nI kp)) := ⟨_, rfl⟩
  rw [← hI1] at w
  have f4 : I1 166 4 = nI bd := by rw [hI1, vu_eq, vu_ne (by decide), vu_eq]
  have f5 : I1 166 5 = nI kp := by rw [hI1, vu_eq, vu_eq]
  have ff : ∀ a, a ≠ 166 → I1 a = I a := fun a ha => by rw [hI1, vu_ne ha]
  have g1 := ff 161 (by decide)
  have LN1 : LN I1 166 F1 B1 al mks := ⟨fun b hb => by rw [ff _ (by decide)]; exact c3.1 b hb, by rw [hI1, vu_eq, vu_ne (by decide), vu_ne (by decide), vu_ne (by decide)]; exact c3.2.1, fun k hk => by rw [ff _ (by decide)]; exact c3.2.2 k hk⟩
  -- whatever is written into 161 and 170
  have fin : ∀ (h : Nat → Int32) (g : Nat → Int32), (∀ k, k < 6 → h k = I1 161 k) → h 6 = nI (nst be bd kp B (fb, kb, mo, gd, bt)).1 → h 7 = nI (nst be bd kp B (fb, kb, mo, gd, bt)).2.1 → h 8 = nI (nst be bd kp B (fb, kb, mo, gd, bt)).2.2.1 → h 9 = (nst be bd kp B (fb, kb, mo, gd, bt)).2.2.2.1 → (∀ i, i < n → g i = (nst be bd kp B (fb, kb, mo, gd, bt)).2.2.2.2 i) → CI Ib J n be F1 B1 FS al mks L0 (va_up (va_up I1 161 h) 170 g) (nst be bd kp B (fb, kb, mo, gd, bt)) := by
    intro h g h5 h6 h7 h8 h9 hg
    have a1 : ∀ a, a ≠ 161 → a ≠ 170 → va_up (va_up I1 161 h) 170 g a = I1 a := fun a x y => by rw [vu_ne y, vu_ne x]
    have a2 : va_up (va_up I1 161 h) 170 g 161 = h := by rw [vu_ne (by decide), vu_eq]
    have a3 : va_up (va_up I1 161 h) 170 g 170 = g := by rw [vu_eq]
    refine ⟨fun a ha => ?_, ?_, ⟨fun b hb => ?_, ?_, fun k hk => ?_⟩, fun i h1 h2 => ?_, fun j hj => ?_, ?_, ?_, ?_, ?_, ?_, ?_, ?_, ?_, ?_, fun _ i hi => ?_⟩
    · rw [a1 a (by omega) (by omega), ff a (by omega)]; exact c1 a ha
    · exact WG_fr c2 (fun a h1 h2 => by rw [a1 a (by omega) (by omega), ff a (by omega)]) rfl
    · rw [a1 _ (by decide) (by decide)]; exact LN1.1 b hb
    · rw [a1 _ (by decide) (by decide)]; exact LN1.2.1
    · rw [a1 _ (by decide) (by decide)]; exact LN1.2.2 k hk
    · rw [a1 _ (by decide) (by decide), ff _ (by decide)]; exact c4 i h1 h2
    · rw [a1 _ (by decide) (by decide), ff _ (by decide)]; exact c5 j hj
    · rw [a2, h5 4 (by decide), g1]; exact c6
    · rw [a2, h5 5 (by decide), g1]; exact c7
    · rw [a2]; exact h6
    · rw [a2]; exact h7
    · rw [a2]; exact h8
    · rw [a2]; exact h9
    · unfold nst; dsimp only; split <;> omega
    · unfold nst; dsimp only; split <;> omega
    · unfold nst; dsimp only; split <;> omega
    · rw [a3]; exact hg i hi
  obtain ⟨d, rfl⟩ : ∃ d', d = d' + 1 := ⟨d - 1, by omega⟩
  have w := w d (by omega)
  obtain ⟨mx, hmx⟩ : ∃ mx, mx = (if mo < kp then kp else mo) := ⟨_, rfl⟩
  obtain ⟨gx, hgx⟩ : ∃ gx : Int32, gx = (if bd ≤ be then gd + nI 1 else gd) := ⟨_, rfl⟩
  have emx : (if mo < kp then nI kp else nI mo) = nI mx := by
    rw [hmx]
    by_cases q : mo < kp
    · rw [if_pos q, if_pos q]
    · rw [if_neg q, if_neg q]
  have r6 : I1 161 6 = nI fb := by rw [g1]; exact c8
  have r7 : I1 161 7 = nI kb := by rw [g1]; exact c9
  have r8 : I1 161 8 = nI mo := by rw [g1]; exact c10
  have r9 : I1 161 9 = gd := by rw [g1]; exact c11
  have r5 : I1 161 5 = nI be := by rw [g1]; exact c7
  -- after the count of good ones
  have tail : ∃ I', Ev X d 35 2 [.ref 161] [] (mk (va_up I1 161 (va_up (va_up (I1 161) 8 (nI mx)) 9 gx)) J) (none, mk I' J) ∧ CI Ib J n be F1 B1 FS al mks L0 I' (nst be bd kp B (fb, kb, mo, gd, bt)) ∧ I' 163 = I 163 := by
    by_cases z : bd < fb ∨ (bd = fb ∧ kb < kp)
    · refine ⟨va_up (va_up I1 161 (va_up (va_up (va_up (va_up (I1 161) 8 (nI mx)) 9 gx) 6 (nI bd)) 7 (nI kp))) 170 (va_cpy (I1 163) (I1 170) 0 0 7), ?_, fin _ _ ?_ ?_ ?_ ?_ ?_ ?_, ?_⟩
      · by_cases z1 : bd < fb
        · simp (disch := first | omega | assumption | exact rfl) only [U_35_2, U_35_5, U_35_6, XX, QQ, WW, KK, QX, SHs, RRs, Nat.reduceAdd, Nat.reduceMul, Nat.reduceLeDiff, Nat.reduceEqDiff, List.length_cons, List.length_nil, decide_true, decide_false, Bool.true_and, Bool.and_true, Bool.false_and, Bool.and_false, false_and, and_false, Bool.false_eq_true, Bool.true_eq_false, reduceCtorEq, eq_self, if_true, if_false, true_and, and_true, not_true_eq_false, not_false_eq_true, if_pos, if_neg, z_ite_not, false_or, or_false, true_or, or_true, SWs, swk_0, swk_1, f4, f5, r6, r7]
        · have z2 : bd = fb := by omega
          have z3 : kb < kp := by omega
          simp (disch := first | omega | assumption | exact rfl) only [U_35_2, U_35_3, U_35_4, U_35_5, U_35_6, XX, QQ, WW, KK, QX, SHs, RRs, Nat.reduceAdd, Nat.reduceMul, Nat.reduceLeDiff, Nat.reduceEqDiff, List.length_cons, List.length_nil, decide_true, decide_false, Bool.true_and, Bool.and_true, Bool.false_and, Bool.and_false, false_and, and_false, Bool.false_eq_true, Bool.true_eq_false, reduceCtorEq, eq_self, if_true, if_false, true_and, and_true, not_true_eq_false, not_false_eq_true, if_pos, if_neg, z_ite_not, false_or, or_false, true_or, or_true, SWs, swk_0, swk_1, f4, f5, r6, r7]
      · intro k hk; rw [vu_ne (by omega), vu_ne (by omega), vu_ne (by omega), vu_ne (by omega)]
      · rw [vu_ne (by decide), vu_eq]; unfold nst; dsimp only; rw [if_pos z]
      · rw [vu_eq]; unfold nst; dsimp only; rw [if_pos z]
      · rw [vu_ne (by decide), vu_ne (by decide), vu_ne (by decide), vu_eq]; exact congrArg nI hmx
      · rw [vu_ne (by decide), vu_ne (by decide), vu_eq]; exact hgx
      · intro i hi
        rw [va_cpy0 (by omega), ff _ (by decide), hB i hi]; unfold nst; dsimp only; rw [if_pos z]
      · rw [vu_ne (by decide), vu_ne (by decide), ff _ (by decide)]
    · refine ⟨va_up (va_up I1 161 (va_up (va_up (I1 161) 8 (nI mx)) 9 gx)) 170 (I1 170), ?_, ?_, ?_⟩
      · have e : va_up (va_up I1 161 (va_up (va_up (I1 161) 8 (nI mx)) 9 gx)) 170 (I1 170) = va_up I1 161 (va_up (va_up (I1 161) 8 (nI mx)) 9 gx) := vu_same (vu_ne (by decide))
        rw [e]
        have z1 : ¬ bd < fb := fun q => z (.inl q)
        by_cases z2 : bd = fb
        · have z3 : ¬ kb < kp := fun q => z (.inr ⟨z2, q⟩)
          simp (disch := first | omega | assumption | exact rfl) only [U_35_2, U_35_3, U_35_4, U_35_6, XX, QQ, WW, KK, QX, SHs, RRs, Nat.reduceAdd, Nat.reduceMul, Nat.reduceLeDiff, Nat.reduceEqDiff, List.length_cons, List.length_nil, decide_true, decide_false, Bool.true_and, Bool.and_true, Bool.false_and, Bool.and_false, false_and, and_false, Bool.false_eq_true, Bool.true_eq_false, reduceCtorEq, eq_self, if_true, if_false, true_and, and_true, not_true_eq_false, not_false_eq_true, if_pos, if_neg, z_ite_not, false_or, or_false, true_or, or_true, SWs, swk_0, swk_1, f4, f5, r6, r7]
        · simp (disch := first | omega | assumption | exact rfl) only [U_35_2, U_35_3, U_35_6, XX, QQ, WW, KK, QX, SHs, RRs, Nat.reduceAdd, Nat.reduceMul, Nat.reduceLeDiff, Nat.reduceEqDiff, List.length_cons, List.length_nil, decide_true, decide_false, Bool.true_and, Bool.and_true, Bool.false_and, Bool.and_false, false_and, and_false, Bool.false_eq_true, Bool.true_eq_false, reduceCtorEq, eq_self, if_true, if_false, true_and, and_true, not_true_eq_false, not_false_eq_true, if_pos, if_neg, z_ite_not, false_or, or_false, true_or, or_true, SWs, swk_0, swk_1, f4, f5, r6, r7]
      · have hle : fb ≤ 24 := by omega
        refine fin _ _ ?_ ?_ ?_ ?_ ?_ ?_
        · intro k hk; rw [vu_ne (by omega), vu_ne (by omega)]
        · rw [vu_ne (by decide), vu_ne (by decide), r6]; unfold nst; dsimp only; rw [if_neg z]
        · rw [vu_ne (by decide), vu_ne (by decide), r7]; unfold nst; dsimp only; rw [if_neg z]
        · rw [vu_ne (by decide), vu_eq]; exact congrArg nI hmx
        · rw [vu_eq]; exact hgx
        · intro i hi
          rw [ff _ (by decide), c15 hle i hi]; unfold nst; dsimp only; rw [if_neg z]
      · rw [vu_ne (by decide), vu_ne (by decide), ff _ (by decide)]
  obtain ⟨I', t1, t2, t3⟩ := tail
  refine ⟨I', ?_, t2, t3⟩
  refine callF_at (by omega) (by decide) (Nat.le_of_ble_eq_true rfl) (fun d' hd' => ?_)
  obtain rfl : d = d' := by omega
  show Ev X d 35 0 [.ref 161] [] (mk I J) _
  by_cases z : bd ≤ be
  · rw [if_pos z] at hgx
    rw [hgx] at t1
    simp (disch := first | omega | assumption | exact rfl) only [U_35_0, U_35_1, XX, QQ, WW, KK, QX, SHs, RRs, Nat.reduceAdd, Nat.reduceMul, Nat.reduceLeDiff, Nat.reduceEqDiff, List.length_cons, List.length_nil, decide_true, decide_false, Bool.true_and, Bool.and_true, Bool.false_and, Bool.and_false, false_and, and_false, Bool.false_eq_true, Bool.true_eq_false, reduceCtorEq, eq_self, if_true, if_false, true_and, and_true, not_true_eq_false, not_false_eq_true, if_pos, if_neg, z_ite_not, false_or, or_false, true_or, or_true, SWs, swk_0, swk_1, w, f4, f5, r5, r8, r9, emx]
    exact t1
  · rw [if_neg z] at hgx
    have e : va_up (va_up (I1 161) 8 (nI mx)) 9 gx = va_up (I1 161) 8 (nI mx) := vu_same (by rw [vu_ne (by decide), hgx]; exact r9)
    rw [e] at t1
    simp (disch := first | omega | assumption | exact rfl) only [U_35_0, XX, QQ, WW, KK, QX, SHs, RRs, Nat.reduceAdd, Nat.reduceMul, Nat.reduceLeDiff, Nat.reduceEqDiff, List.length_cons, List.length_nil, decide_true, decide_false, Bool.true_and, Bool.and_true, Bool.false_and, Bool.and_false, false_and, and_false, Bool.false_eq_true, Bool.true_eq_false, reduceCtorEq, eq_self, if_true, if_false, true_and, and_true, not_true_eq_false, not_false_eq_true, if_pos, if_neg, z_ite_not, false_or, or_false, true_or, or_true, SWs, swk_0, swk_1, w, f4, f5, r5, r8, r9, emx]
    exact t1
theorem c_orders (hn : n ≤ 7) (hp : pop FS = n) (hbe : be ≤ 24) (hm4 : ∀ k, k < 24 → mks k < 4) (hL0 : fb_ct L0.testBit 24 = n) : ∀ (k c us L : Nat) (B : Nat → Int32) (s : LyS) (I : Nat → Nat → Int32) (d : Nat), c + k = n → 2 * k + 4 ≤ d → us < 2 ^ 7 → (∀ b, b < 24 → (L.testBit b = true ↔ L0.testBit b = true ∧ us.testBit (fb_ct L0.testBit b) = false)) → Lay c L B → CI Ib J n be F1 B1 FS al mks L0 I s → (∀ i, i < c → I 163 i = B i) →
    ∃ I', callF X d 34 [.ref 161, .int (nI c), .int (nI us)] (mk I J) = some (none, mk I' J) ∧ CI Ib J n be F1 B1 FS al mks L0 I' (allT (fL be F1 B1 FS al mks) k c L B s) ∧ (∀ i, i < c → I' 163 i = B i)
  | 0, c, us, L, B, s, I, d, hc, hd, hus, hL, hl, hC, hB => by
    obtain rfl : c = n := by omega
    obtain ⟨d, rfl⟩ : ∃ d', d = d' + 1 := ⟨d - 1, by omega⟩
    obtain ⟨I', t1, t2, t3⟩ := c_note (X := X) (d := d) (by omega) hn hp hbe hm4 hC hB (Lay_WB hl hB hC.2.2.2.1)
    refine ⟨I', ?_, t2, fun i hi => by rw [t3]; exact hB i hi⟩
    refine callF_at (by omega) (by decide) (Nat.le_of_ble_eq_true rfl) (fun d' hd' => ?_)
    obtain rfl : d = d' := by omega
    show Ev X d 34 0 [.ref 161, .int (nI c), .int (nI us)] [] (mk I J) _
    have c6 := hC.2.2.2.2.2.1
    simp (disch := first | omega | assumption | exact rfl) only [U_34_0, U_34_3, U_34_4, XX, QQ, WW, KK, QX, SHs, RRs, Nat.reduceAdd, Nat.reduceMul, Nat.reduceLeDiff, Nat.reduceEqDiff, List.length_cons, List.length_nil, decide_true, decide_false, Bool.true_and, Bool.and_true, Bool.false_and, Bool.and_false, false_and, and_false, Bool.false_eq_true, Bool.true_eq_false, reduceCtorEq, eq_self, if_true, if_false, true_and, and_true, not_true_eq_false, not_false_eq_true, if_pos, if_neg, z_ite_not, false_or, or_false, true_or, or_true, SWs, swk_0, swk_1, c6, t1]
  | k + 1, c, us, L, B, s, I, d, hc, hd, hus, hL, hl, hC, hB => by
    obtain ⟨d, rfl⟩ : ∃ d', d = d' + 1 + 1 := ⟨d - 2, by omega⟩
    obtain ⟨h, hh⟩ : ∃ h : Nat → LyS → LyS, h = fun b s => if us.testBit (fb_ct L0.testBit b) = true then s else allT (fL be F1 B1 FS al mks) k (c + 1) (wo L b) (va_up B c (nI b)) s := ⟨_, rfl⟩
    have eF : fB (fun j s => h (kth L0.testBit 24 j) s) n s = allT (fL be F1 B1 FS al mks) (k + 1) c L B s := by
      have := fB_kth (S := LyS) (p := L0.testBit) (N := 24) (h := h) 24 (Nat.le_refl _) s
      rw [hL0] at this
      rw [this, allT]
      refine fB_cong 24 (fun b hb s => ?_) s
      rw [hh]
      have q := hL b hb
      by_cases z1 : L0.testBit b = true
      · cases z2 : us.testBit (fb_ct L0.testBit b) with
        | true =>
          have z3 : ¬ L.testBit b = true := fun y => by have := (q.mp y).2; rw [z2] at this; cases this
          rw [if_pos z1, if_neg z3]; exact if_pos z2
        | false =>
          rw [if_pos z1, if_pos (q.mpr ⟨z1, z2⟩)]; exact if_neg (by rw [z2]; simp)
      · rw [if_neg z1, if_neg (fun y => z1 (q.mp y).1)]
    have lp : ∃ I', Ev X d 268 1 [.ref 161, .int (nI c), .int (nI us), .int (nI 0)] [] (mk I J) (none, mk I' J) ∧ CI Ib J n be F1 B1 FS al mks L0 I' (fB (fun j s => h (kth L0.testBit 24 j) s) n s) ∧ (∀ i, i < c → I' 163 i = B i) := by
      refine lpI (n := n) (P := fun j => ∀ I1, CI Ib J n be F1 B1 FS al mks L0 I1 (fB (fun j s => h (kth L0.testBit 24 j) s) j s) → (∀ i, i < c → I1 163 i = B i) → ∃ I', Ev X d 268 1 [.ref 161, .int (nI c), .int (nI us), .int (nI j)] [] (mk I1 J) (none, mk I' J) ∧ CI Ib J n be F1 B1 FS al mks L0 I' (fB (fun j s => h (kth L0.testBit 24 j) s) n s) ∧ (∀ i, i < c → I' 163 i = B i)) ?_ ?_ (fun Q => Q I hC hB)
      · intro I1 hC1 hB1
        refine ⟨I1, ?_, hC1, hB1⟩
        have c6 := hC1.2.2.2.2.2.1
        rw [U_268_1]
        simp (disch := first | omega | assumption | exact rfl) only [U_268_5, XX, QQ, WW, KK, QX, SHs, RRs, Nat.reduceAdd, Nat.reduceMul, Nat.reduceLeDiff, Nat.reduceEqDiff, List.length_cons, List.length_nil, decide_true, decide_false, Bool.true_and, Bool.and_true, Bool.false_and, Bool.and_false, false_and, and_false, Bool.false_eq_true, Bool.true_eq_false, reduceCtorEq, eq_self, if_true, if_false, true_and, and_true, not_true_eq_false, not_false_eq_true, if_pos, if_neg, z_ite_not, false_or, or_false, true_or, or_true, SWs, swk_0, swk_1, c6]
      · intro j hj ih I1 hC1 hB1
        have c6 := hC1.2.2.2.2.2.1
        have c5 := hC1.2.2.2.2.1 j hj
        obtain ⟨kb, kt, kc⟩ := kth_spec (p := L0.testBit) (N := 24) (n := j) (by omega)
        obtain ⟨b, eb⟩ : ∃ b, b = kth L0.testBit 24 j := ⟨_, rfl⟩
        rw [fB, ← eb] at ih
        rw [← eb] at kb kt kc c5
        by_cases z : us.testBit j = true
        · have e : ∀ t, h b t = t := fun t => by rw [hh]; exact if_pos (by rw [kc]; exact z)
          rw [e] at ih
          obtain ⟨I', q1, q2, q3⟩ := ih I1 hC1 hB1
          refine ⟨I', ?_, q2, q3⟩
          rw [U_268_1]
          simp (disch := first | omega | assumption | exact rfl) only [U_268_2, U_268_4, XX, QQ, WW, KK, QX, SHs, RRs, Nat.reduceAdd, Nat.reduceMul, Nat.reduceLeDiff, Nat.reduceEqDiff, List.length_cons, List.length_nil, decide_true, decide_false, Bool.true_and, Bool.and_true, Bool.false_and, Bool.and_false, false_and, and_false, Bool.false_eq_true, Bool.true_eq_false, reduceCtorEq, eq_self, if_true, if_false, true_and, and_true, not_true_eq_false, not_false_eq_true, if_pos, if_neg, z_ite_not, false_or, or_false, true_or, or_true, SWs, swk_0, swk_1, c6, z]
          exact q1
        · have z' : us.testBit j = false := by simpa using z
          have e : ∀ t, h b t = allT (fL be F1 B1 FS al mks) k (c + 1) (wo L b) (va_up B c (nI b)) t := fun t => by rw [hh]; exact if_neg (by rw [kc]; exact z)
          rw [e] at ih
          have hLb : L.testBit b = true := (hL b kb).mpr ⟨kt, by rw [kc]; exact z'⟩
          obtain ⟨I2, hI2⟩ : ∃ I2, I2 = va_up I1 163 (va_up (I1 163) c (nI b)) := ⟨_, rfl⟩
          have fr : ∀ a, a ≠ 163 → I2 a = I1 a := fun a ha => by rw [hI2, vu_ne ha]
          have fe : I2 163 = va_up (I1 163) c (nI b) := by rw [hI2, vu_eq]
          have hC2 : CI Ib J n be F1 B1 FS al mks L0 I2 (fB (fun j s => h (kth L0.testBit 24 j) s) j s) := by
            obtain ⟨c1, c2, c3, c4, c5, c6, c7, c8, c9, c10, c11, c12, c13, c14, c15⟩ := hC1
            refine ⟨fun a ha => by rw [fr a (by omega)]; exact c1 a ha, ?_, ⟨fun b hb => by rw [fr _ (by decide)]; exact c3.1 b hb, by rw [fr _ (by decide)]; exact c3.2.1, fun k hk => by rw [fr _ (by decide)]; exact c3.2.2 k hk⟩, fun i h1 h2 => by rw [fe, vu_ne (by omega)]; exact c4 i h1 h2, by rw [fr _ (by decide)]; exact c5, by rw [fr _ (by decide)]; exact c6, by rw [fr _ (by decide)]; exact c7, by rw [fr _ (by decide)]; exact c8, by rw [fr _ (by decide)]; exact c9, by rw [fr _ (by decide)]; exact c10, by rw [fr _ (by decide)]; exact c11, c12, c13, c14, by rw [fr _ (by decide)]; exact c15⟩
            obtain ⟨g1, g2, g3, g4, g5, g6, g7⟩ := c2
            refine ⟨g1, g2, g3, g4, ?_, fun i hi => ?_, fun i s hi hs => ?_⟩
            · show I2 162 1 = _; rw [fr _ (by decide)]; exact g5
            · show I2 164 i = _; rw [fr _ (by decide)]; exact g6 i hi
            · show I2 165 _ = _; rw [fr _ (by decide)]; exact g7 i s hi hs
          have hus2 : us ||| 2 ^ j < 2 ^ 7 := Nat.or_lt_two_pow hus (Nat.pow_lt_pow_right (by decide) (by omega))
          obtain ⟨I3, r1, r2, r3⟩ := c_orders hn hp hbe hm4 hL0 k (c + 1) (us ||| 2 ^ j) (wo L b) (va_up B c (nI b)) _ I2 d (by omega) (by omega) hus2 (fun x hx => by
            unfold wo
            rw [bs_tb, hL x hx, Nat.testBit_or, Nat.testBit_two_pow, Bool.or_eq_false_iff, decide_eq_false_iff_not]
            constructor
            · rintro ⟨_, ⟨a1, a2⟩, a3⟩
              refine ⟨a1, a2, fun y => a3 (fb_ct_kth_one a1 kt (y.symm.trans kc.symm))⟩
            · rintro ⟨a1, a2, a3⟩
              refine ⟨hx, ⟨a1, a2⟩, fun y => a3 ?_⟩
              rw [y]; exact kc.symm) (Lay_s hl kb hLb) hC2 (fun i hi => by
            rw [fe]
            by_cases y : i = c
            · subst y; rw [vu_eq, vu_eq]
            · rw [vu_ne y, vu_ne y]; exact hB1 i (by omega))
          obtain ⟨I', q1, q2, q3⟩ := ih I3 r2 (fun i hi => by rw [r3 i (by omega), vu_ne (by omega)])
          refine ⟨I', ?_, q2, q3⟩
          rw [hI2] at r1
          have cL : c < 24 := by omega
          rw [U_268_1]
          simp (disch := first | omega | assumption | exact rfl) only [U_268_2, U_268_3, U_268_4, XX, QQ, WW, KK, QX, SHs, RRs, Nat.reduceAdd, Nat.reduceMul, Nat.reduceLeDiff, Nat.reduceEqDiff, List.length_cons, List.length_nil, decide_true, decide_false, Bool.true_and, Bool.and_true, Bool.false_and, Bool.and_false, false_and, and_false, Bool.false_eq_true, Bool.true_eq_false, reduceCtorEq, eq_self, if_true, if_false, true_and, and_true, not_true_eq_false, not_false_eq_true, if_pos, if_neg, z_ite_not, false_or, or_false, true_or, or_true, SWs, swk_0, swk_1, c6, c5, z', fa_or, r1]
          exact q1
    rw [eF] at lp
    obtain ⟨I', t1, t2, t3⟩ := lp
    refine ⟨I', ?_, t2, t3⟩
    have each : callF X (d + 1) 268 [.ref 161, .int (nI c), .int (nI us)] (mk I J) = some (none, mk I' J) := by
      refine callF_of (by decide) (Nat.le_of_ble_eq_true rfl) ?_
      show Ev X d 268 0 [.ref 161, .int (nI c), .int (nI us), .retAddr 0] [] ( mk I J) _
      simp (disch := first | omega | assumption | exact rfl) only [U_268_0, XX, QQ, WW, KK, QX, SHs, RRs, Nat.reduceAdd, Nat.reduceMul, Nat.reduceLeDiff, Nat.reduceEqDiff, List.length_cons, List.length_nil, decide_true, decide_false, Bool.true_and, Bool.and_true, Bool.false_and, Bool.and_false, false_and, and_false, Bool.false_eq_true, Bool.true_eq_false, reduceCtorEq, eq_self, if_true, if_false, true_and, and_true, not_true_eq_false, not_false_eq_true, if_pos, if_neg, z_ite_not, false_or, or_false, true_or, or_true, SWs, swk_0, swk_1]
      exact t1
    refine callF_of (by decide) (Nat.le_of_ble_eq_true rfl) ?_
    show Ev X (d + 1) 34 0 [.ref 161, .int (nI c), .int (nI us)] [] (mk I J) _
    have c6 := hC.2.2.2.2.2.1
    have g5 : I 162 1 = nI (pop FS) := hC.2.1.2.2.2.2.1
    rw [hp] at g5
    simp (disch := first | omega | assumption | exact rfl) only [U_34_0, U_34_1, U_34_2, U_34_4, XX, QQ, WW, KK, QX, SHs, RRs, Nat.reduceAdd, Nat.reduceMul, Nat.reduceLeDiff, Nat.reduceEqDiff, List.length_cons, List.length_nil, decide_true, decide_false, Bool.true_and, Bool.and_true, Bool.false_and, Bool.and_false, false_and, and_false, Bool.false_eq_true, Bool.true_eq_false, reduceCtorEq, eq_self, if_true, if_false, true_and, and_true, not_true_eq_false, not_false_eq_true, if_pos, if_neg, z_ite_not, false_or, or_false, true_or, or_true, SWs, swk_0, swk_1, c6, g5, each]
end LAYC
