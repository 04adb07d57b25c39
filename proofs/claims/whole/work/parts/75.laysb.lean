/-! ===== layings: the reference's orders; alike ===== -/
section LAYR2
variable {X : Nat × (Nat → Int32)} {Ib : Nat → Nat → Int32} {J : Nat → Nat → Int64} {n be F1 : Nat} {B1 : Nat → Int32} {FS al : Nat} {mks : Nat → Nat} {sh : Nat}
theorem RI_188 {I : Nat → Nat → Int32} {s : LyS} {f : Nat → Int32} (h : RI Ib n F1 B1 I s) : RI Ib n F1 B1 (va_up I 188 f) s := by
  obtain ⟨c1, c2, c3, c4, c5, c6, c7, c8, c9, c10⟩ := h
  have fr : ∀ a, a ≠ 188 → va_up I 188 f a = I a := fun a ha => vu_ne ha
  refine ⟨FR_trans c1 ⟨fun a ha => fr a (by omega), fr _ (by decide), fr _ (by decide), fr _ (by decide), fun k hk => by rw [fr _ (by decide)]⟩, by rw [fr _ (by decide)]; exact c2, by rw [fr _ (by decide)]; exact c3, by rw [fr _ (by decide)]; exact c4, by rw [fr _ (by decide), fr _ (by decide)]; exact c5, by rw [fr _ (by decide)]; exact c6, by rw [fr _ (by decide)]; exact c7, c8, c9, c10⟩
theorem r_orders (hsh : sh < 6) (hn : n ≤ 7) (hp : pop FS = n) (hR : RSh (Ib 178) sh FS) (hal : Ib 178 1 = nI al) (hal2 : al < 2) (hbe : Ib 178 2 = nI be) (hbe2 : be ≤ 24) (hm : ∀ k, k < 24 → Ib 178 (10 + k) = nI (mks k)) (hm4 : ∀ k, k < 24 → mks k < 4) : ∀ (k c L : Nat) (B : Nat → Int32) (s : LyS) (I : Nat → Nat → Int32) (d : Nat), c + k = n → k + 7 ≤ d → L < 2 ^ 24 → Lay c L B → RI Ib n F1 B1 I s → (∀ i, i < c → I 188 i = B i) → (∀ i, c ≤ i → i < 24 → I 188 i = -1) →
    ∃ I', callF X d 245 [.ref 177, .int (nI sh), .int (nI c), .int (nI L)] (mk I J) = some (none, mk I' J) ∧ RI Ib n F1 B1 I' (allT (fL be F1 B1 FS al mks) k c L B s) ∧ (∀ i, i < c → I' 188 i = B i) ∧ (∀ i, c ≤ i → i < 24 → I' 188 i = -1)
  | 0, c, L, B, s, I, d, hc, hd, hL, hl, hC, hB, hB2 => by
    obtain rfl : c = n := by omega
    obtain ⟨I', t1, t2, t3⟩ := r_note (X := X) (J := J) (d := d) (lf := nI L) (by omega) hsh hn hp hR hal hal2 hbe hbe2 hm hm4 hC hB (Lay_WB hl hB hB2)
    exact ⟨I', t1, t2, fun i hi => by rw [t3]; exact hB i hi, fun i h1 h2 => by rw [t3]; exact hB2 i h1 h2⟩
  | k + 1, c, L, B, s, I, d, hc, hd, hL, hl, hC, hB, hB2 => by
    obtain ⟨d, rfl⟩ : ∃ d', d = d' + 1 := ⟨d - 1, by omega⟩
    obtain ⟨g, hg⟩ : ∃ g : Nat → LyS → LyS, g = fun b s => if L.testBit b = true then allT (fL be F1 B1 FS al mks) k (c + 1) (wo L b) (va_up B c (nI b)) s else s := ⟨_, rfl⟩
    have eF : allT (fL be F1 B1 FS al mks) (k + 1) c L B s = fB g 24 s := by rw [allT, hg]
    rw [eF]
    have lp : ∃ I', Ev X d 245 17 [.ref 177, .int (nI sh), .int (nI c), .int (nI L), .int (nI 0)] [] (mk I J) (none, mk I' J) ∧ RI Ib n F1 B1 I' (fB g 24 s) ∧ (∀ i, i < c → I' 188 i = B i) ∧ (∀ i, c ≤ i → i < 24 → I' 188 i = -1) := by
      refine lpI (n := 24) (P := fun b => ∀ I1, RI Ib n F1 B1 I1 (fB g b s) → (∀ i, i < c → I1 188 i = B i) → (∀ i, c < i → i < 24 → I1 188 i = -1) → ∃ I', Ev X d 245 17 [.ref 177, .int (nI sh), .int (nI c), .int (nI L), .int (nI b)] [] (mk I1 J) (none, mk I' J) ∧ RI Ib n F1 B1 I' (fB g 24 s) ∧ (∀ i, i < c → I' 188 i = B i) ∧ (∀ i, c ≤ i → i < 24 → I' 188 i = -1)) ?_ ?_ (fun Q => Q I hC hB (fun i h1 h2 => hB2 i (by omega) h2))
      · intro I1 hC1 h1 h2
        refine ⟨va_up I1 188 (va_up (I1 188) c (-1)), ?_, RI_188 hC1, fun i hi => ?_, fun i h3 h4 => ?_⟩
        · have cL : c < 24 := by omega
          rw [U_245_17]
          simp (disch := first | omega | assumption | exact rfl) only [U_245_22, XX, QQ, WW, KK, QX, SHs, RRs, Nat.reduceAdd, Nat.reduceMul, Nat.reduceLeDiff, Nat.reduceEqDiff, List.length_cons, List.length_nil, decide_true, decide_false, Bool.true_and, Bool.and_true, Bool.false_and, Bool.and_false, false_and, and_false, Bool.false_eq_true, Bool.true_eq_false, reduceCtorEq, eq_self, if_true, if_false, true_and, and_true, not_true_eq_false, not_false_eq_true, if_pos, if_neg, z_ite_not, false_or, or_false, true_or, or_true, SWs, swk_0, swk_1]
        · rw [vu_eq, vu_ne (by omega)]; exact h1 i hi
        · rw [vu_eq]
          by_cases y : i = c
          · subst y; rw [vu_eq]
          · rw [vu_ne y]; exact h2 i (by omega) h4
      · intro b hb ih I1 hC1 h1 h2
        rw [fB] at ih
        by_cases z : L.testBit b = true
        · have e : ∀ t, g b t = allT (fL be F1 B1 FS al mks) k (c + 1) (wo L b) (va_up B c (nI b)) t := fun t => by rw [hg]; exact if_pos z
          rw [e] at ih
          obtain ⟨I3, r1, r2, r3, r4⟩ := r_orders hsh hn hp hR hal hal2 hbe hbe2 hm hm4 k (c + 1) (wo L b) (va_up B c (nI b)) _ (va_up I1 188 (va_up (I1 188) c (nI b))) d (by omega) (by omega) (bs_lt _) (Lay_s hl hb z) (RI_188 hC1) (fun i hi => by
            rw [vu_eq]
            by_cases y : i = c
            · subst y; rw [vu_eq, vu_eq]
            · rw [vu_ne y, vu_ne y]; exact h1 i (by omega)) (fun i h3 h4 => by rw [vu_eq, vu_ne (by omega)]; exact h2 i (by omega) h4)
          obtain ⟨I', q1, q2, q3, q4⟩ := ih I3 r2 (fun i hi => by rw [r3 i (by omega), vu_ne (by omega)]) (fun i h3 h4 => r4 i (by omega) h4)
          refine ⟨I', ?_, q2, q3, q4⟩
          have cL : c < 24 := by omega
          have p32 : 2 ^ b < 2 ^ 32 := Nat.pow_lt_pow_right (by decide) (by omega)
          have ew := wo_and hL hb
          rw [U_245_17]
          simp (disch := first | omega | assumption | exact rfl) only [U_245_18, U_245_20, U_245_21, XX, QQ, WW, KK, QX, SHs, RRs, Nat.reduceAdd, Nat.reduceMul, Nat.reduceLeDiff, Nat.reduceEqDiff, List.length_cons, List.length_nil, decide_true, decide_false, Bool.true_and, Bool.and_true, Bool.false_and, Bool.and_false, false_and, and_false, Bool.false_eq_true, Bool.true_eq_false, reduceCtorEq, eq_self, if_true, if_false, true_and, and_true, not_true_eq_false, not_false_eq_true, if_pos, if_neg, z_ite_not, false_or, or_false, true_or, or_true, SWs, swk_0, swk_1, z, n_bit2, i_not, p32, fa_and, ew, r1]
          exact q1
        · have e : ∀ t, g b t = t := fun t => by rw [hg]; exact if_neg z
          rw [e] at ih
          obtain ⟨I', q1, q2, q3, q4⟩ := ih I1 hC1 h1 h2
          refine ⟨I', ?_, q2, q3, q4⟩
          have z' : L.testBit b = false := by simpa using z
          rw [U_245_17]
          simp (disch := first | omega | assumption | exact rfl) only [U_245_18, U_245_19, U_245_21, XX, QQ, WW, KK, QX, SHs, RRs, Nat.reduceAdd, Nat.reduceMul, Nat.reduceLeDiff, Nat.reduceEqDiff, List.length_cons, List.length_nil, decide_true, decide_false, Bool.true_and, Bool.and_true, Bool.false_and, Bool.and_false, false_and, and_false, Bool.false_eq_true, Bool.true_eq_false, reduceCtorEq, eq_self, if_true, if_false, true_and, and_true, not_true_eq_false, not_false_eq_true, if_pos, if_neg, z_ite_not, false_or, or_false, true_or, or_true, SWs, swk_0, swk_1, z', n_bit2]
          exact q1
    obtain ⟨I', t1, t2, t3, t4⟩ := lp
    refine ⟨I', ?_, t2, t3, t4⟩
    refine callF_at (by omega) (by decide) (Nat.le_of_ble_eq_true rfl) (fun d' hd' => ?_)
    obtain rfl : d = d' := by omega
    show Ev X d 245 0 [.ref 177, .int (nI sh), .int (nI c), .int (nI L), .retAddr 0] [] (mk I J) _
    have s1 : I 178 (70 + sh) = nI n := by rw [hC.1.2.1, hR.2.1, hp]
    simp (disch := first | omega | assumption | exact rfl) only [U_245_0, U_245_16, XX, QQ, WW, KK, QX, SHs, RRs, Nat.reduceAdd, Nat.reduceMul, Nat.reduceLeDiff, Nat.reduceEqDiff, List.length_cons, List.length_nil, decide_true, decide_false, Bool.true_and, Bool.and_true, Bool.false_and, Bool.and_false, false_and, and_false, Bool.false_eq_true, Bool.true_eq_false, reduceCtorEq, eq_self, if_true, if_false, true_and, and_true, not_true_eq_false, not_false_eq_true, if_pos, if_neg, z_ite_not, false_or, or_false, true_or, or_true, SWs, swk_0, swk_1, s1]
    exact t1
end LAYR2
