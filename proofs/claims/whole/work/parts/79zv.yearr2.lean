/-! ===== a year: the reference ===== -/
/-- what a year changes of the reference's cells -/
def RFy (I I' : Nat → Nat → Int32) : Prop := (∀ a, (a < 177 ∨ a = 179 ∨ a = 182) → I' a = I a) ∧ (∀ k, k < 22 → I' 177 k = I 177 k) ∧ (∀ i, i ≠ 0 → i ≠ 3 → i ≠ 4 → ¬ inA 0 i → (i < 820 ∨ 4490 ≤ i) → I' 178 i = I 178 i)
theorem mtS_N {fi : Nat → Nat → Int32} {b yr : Nat} {N : Nat → Nat} (hy : yr < 2 ^ 31) (hN : N b < 2 ^ 24) : mtS fi b ||| N b = mtS (fiN fi (nI yr) N) b := by
  have e : N b = bs (fun k => (N b).testBit k = true) := (bs_self hN).symm
  unfold mtS
  rw [e, bs_or]
  refine bs_ext (fun c _ => ?_)
  unfold fiN
  by_cases z : fi b c = -1 ∧ (N b).testBit c = true
  · rw [if_pos (cd_iff.mpr z)]
    exact ⟨fun _ => nI_ne hy, fun _ => .inr z.2⟩
  · rw [if_neg (by rw [cd_iff]; exact z)]
    constructor
    · rintro (q | q)
      · exact q
      · exact fun w => z ⟨w, q⟩
    · exact .inl
theorem r_year {X : Nat × (Nat → Int32)} {d : Nat} {I : Nat → Nat → Int32} {J : Nat → Nat → Int64} {k s F1 al be L : Nat} {mks : Nat → Nat} {sg : Nat → List (Nat × Nat)} {wy : Nat → Nat × Nat} {st : YrS} (hd : 9 ≤ d) (hk : k < 3) (hs : s < 6) (hC : RWY I st) (hO : YOk st) (hyr : st.2.2.2.2.1 ≤ 998) (hS : RSh (I 178) s F1) (h0 : 0 < pop F1) (hal : I 178 1 = nI al) (hal2 : al < 2) (hbe : I 178 2 = nI be) (hbe2 : be ≤ 24) (hm : ∀ k, k < 24 → I 178 (10 + k) = nI (mks k)) (hm4 : ∀ k, k < 24 → mks k < 4) (hL : LnY I k L sg wy) :
    ∃ I', callF X d 231 [.ref 177, .int (nI k), .int (nI s)] (mk I J) = some (some (.int (bI (gdY F1 al be mks sg L wy st))), mk I' J) ∧ RWY I' (nxY F1 al be mks sg L wy st) ∧ RFy I I' := by
  obtain ⟨x, F, B, fi, yr, h, hi⟩ := st
  obtain ⟨c1, c2, c3, c4, c5, c6, c7⟩ := hC
  obtain ⟨_, wb⟩ := nxY_ok (be := be) (F1 := F1) (al := al) (L := L) (mks := mks) (sg := sg) (wy := wy) hO hS.1 h0
  obtain ⟨o1, o2, o3, o4, o5⟩ := hO
  dsimp only at c1 c2 c3 c4 c5 c6 c7 o1 o2 o3 o4 o5 hyr
  have h24' := hS.1
  obtain ⟨l1, l2, l3, l4⟩ := id hL
  obtain ⟨d, rfl⟩ : ∃ d', d = d' + 1 := ⟨d - 1, by omega⟩
  obtain ⟨Ia, a1, a2⟩ := r_lineFor (X := X) (d := d) (I := I) (J := J) (k := k) (s := s) (F := F) (F1 := F1) (al := al) (L := L) (yr := yr) (B := B) (mks := mks) (sg := sg) (wy := wy) (fi := fi) (x := x) (by omega) hk hs c3 o1 hS h0 hal hal2 hm hm4 c2 c5 hL
  rw [fkO_is] at a1
  obtain ⟨li, eli⟩ : ∃ li, li = fa_first (lnY sg (vsY yr F B F1 al mks x fi)) L := ⟨_, rfl⟩
  rw [← eli] at a1
  have eln : lnI sg L (vsY yr F B F1 al mks x fi) = li := by rw [eli]; rfl
  have a78 : Ia 178 = I 178 := a2.2.1
  obtain ⟨pt, ept⟩ : ∃ pt, pt = ptY F1 al mks sg L wy (x, F, B, fi, yr, h, hi) := ⟨_, rfl⟩
  rw [← ept] at wb
  -- the way of the line
  have way : ∃ w y u, w < 7 ∧ y ≤ 9999 ∧ (w = 1 → u = nI y) ∧ pt = ptF w y F B F1 al mks x ∧ ∀ r, Ev X d 231 6 [.ref 177, .int (nI k), .int (nI s), .int (if li < L then nI (16 * k + li) else -1), .retAddr 0, .retAddr 0, .retAddr 0, .retAddr 0] [.int u, .int (nI w), .int (nI s), .int (nI 0), .ref 177] (mk Ia J) r → Ev X d 231 0 [.ref 177, .int (nI k), .int (nI s), .retAddr 0, .retAddr 0, .retAddr 0, .retAddr 0, .retAddr 0] [] (mk I J) r := by
    by_cases z : li < L
    · rw [if_pos z] at a1 ⊢
      obtain ⟨y1, y2, y3, y4, y5, y6, y7⟩ := l4 li z
      refine ⟨(wy li).1, (wy li).2, I 178 (4550 + 16 * k + li), y2, y3, y7, ?_, fun r H => ?_⟩
      · rw [ept]; unfold ptY; dsimp only; rw [eln, if_pos z]
      · have ln : ¬ nI (16 * k + li) = -1 := nI_ne (by omega)
        have w1 : Ia 178 (4500 + (16 * k + li)) = nI (wy li).1 := by rw [a78, ← Nat.add_assoc]; exact y6
        have w2 : Ia 178 (4550 + (16 * k + li)) = I 178 (4550 + 16 * k + li) := by rw [a78, ← Nat.add_assoc]
        have b1 : 4500 + (16 * k + li) < 7200 := by omega
        have b2 : 4550 + (16 * k + li) < 7200 := by omega
        simp (disch := first | omega | assumption | exact rfl) only [U_231_0, U_231_2, U_231_3, U_231_5, XX, QQ, WW, KK, QX, SHs, RRs, Nat.reduceAdd, Nat.reduceMul, Nat.reduceLeDiff, Nat.reduceEqDiff, List.length_cons, List.length_nil, decide_true, decide_false, Bool.true_and, Bool.and_true, Bool.false_and, Bool.and_false, false_and, and_false, Bool.false_eq_true, Bool.true_eq_false, reduceCtorEq, eq_self, if_true, if_false, true_and, and_true, not_true_eq_false, not_false_eq_true, if_pos, if_neg, z_ite_not, false_or, or_false, true_or, or_true, SWs, swk_0, swk_1, a1, ln, w1, w2]
        exact H
    · rw [if_neg z] at a1 ⊢
      refine ⟨0, 0, nI 0, by decide, by decide, fun _ => rfl, ?_, fun r H => ?_⟩
      · rw [ept]; unfold ptY; dsimp only; rw [eln, if_neg z]
      · simp (disch := first | omega | assumption | exact rfl) only [U_231_0, U_231_1, U_231_3, U_231_4, XX, QQ, WW, KK, QX, SHs, RRs, Nat.reduceAdd, Nat.reduceMul, Nat.reduceLeDiff, Nat.reduceEqDiff, List.length_cons, List.length_nil, decide_true, decide_false, Bool.true_and, Bool.and_true, Bool.false_and, Bool.and_false, false_and, and_false, Bool.false_eq_true, Bool.true_eq_false, reduceCtorEq, eq_self, if_true, if_false, true_and, and_true, not_true_eq_false, not_false_eq_true, if_pos, if_neg, z_ite_not, false_or, or_false, true_or, or_true, SWs, swk_0, swk_1, a1]
        exact H
  obtain ⟨w, y, u, w7, y9, hu, ew, go⟩ := way
  obtain ⟨Ib, b1, b2, b3, b4, b5⟩ := r_puts (X := X) (d := d) (I := Ia) (J := J) (a := 0) (s := s) (F0 := F) (F1 := F1) (w := w) (y := y) (al := al) (u := u) (B := B) (mks := mks) (by omega) (by decide) hs w7 y9 hu (by rw [a78]; exact c3) o1 (by rw [a78]; exact hS) h0 (by rw [a78]; exact hal) hal2 (fun k hk => by rw [a78]; exact hm k hk) hm4
  rw [a78, c1, ← ew] at b2 b3
  have b78 : ∀ i, i ≠ 0 → Ib 178 i = I 178 i := fun i hi => by rw [b3, vu_ne hi]
  have hRb : RWl (Ib 178) 0 F B := RWl_tr (by decide) (fun i h1 h2 => b78 i (by omega)) (fun _ _ => rfl) c3
  have q1 := r_lays (X := X) (d := d) (I := Ib) (J := J) (a := 0) (F := F) (N := 186) (B := B) (by omega) (by decide) hRb o1 rfl (by decide)
  obtain ⟨Io, eIo⟩ : ∃ Io, Io = va_up (va_up Ib 186 (gN F B (Ib 186) (pop F))) 177 (va_up (Ib 177) 26 (nI (ins F B))) := ⟨_, rfl⟩
  have of : ∀ a, a ≠ 177 → a ≠ 186 → Io a = Ib a := fun a h1 h2 => by rw [eIo, vu_ne h1, vu_ne h2]
  have o7 : ∀ k, k ≠ 26 → Io 177 k = Ib 177 k := fun k hk => by rw [eIo, vu_eq, vu_ne hk]
  have o26 : Io 177 26 = nI (ins F B) := by rw [eIo, vu_eq, vu_eq]
  have o186 : ∀ b, b < 24 → Io 186 b = nI (nr F B b) := fun b hb => by rw [eIo, vu_ne (by decide), vu_eq]; unfold gN; rw [if_pos hb, nrP_all]
  have w7' : va_up Ib 186 (gN F B (Ib 186) (pop F)) 177 = Ib 177 := vu_ne (by decide)
  have hSo : RSh (Io 178) s F1 := by
    rw [of _ (by decide) (by decide)]
    obtain ⟨t1, t2, t3⟩ := hS
    exact ⟨t1, by rw [b78 _ (by omega)]; exact t2, fun i hi => by rw [b78 _ (by omega), b78 _ (by omega)]; exact t3 i hi⟩
  obtain ⟨g, e1, e2, e3⟩ := r_becomes (X := X) (d := d) (I := Io) (J := J) (b := 0) (s := s) (F := F1) (T := pt.2) (by omega) (by decide) hs hSo (fun k hk => by rw [of _ (by decide) (by decide)]; exact b2 k hk) wb
  have g0 : ∀ i, i ≠ 0 → ¬ inA 0 i → g i = I 178 i := fun i h1 h2 => by rw [e3 i h2, of _ (by decide) (by decide), b78 i h1]
  obtain ⟨Ie, eIe⟩ : ∃ Ie, Ie = va_up Io 178 g := ⟨_, rfl⟩
  rw [← eIe] at e1
  have ef : ∀ a, a ≠ 178 → Ie a = Io a := fun a h1 => by rw [eIe, vu_ne h1]
  have e78 : Ie 178 = g := by rw [eIe, vu_eq]
  have q2 := r_lays (X := X) (d := d) (I := Ie) (J := J) (a := 0) (F := F1) (N := 187) (B := pt.2) (by omega) (by decide) (by rw [e78]; exact e2) wb rfl (by decide)
  obtain ⟨In, eIn⟩ : ∃ In, In = va_up (va_up Ie 187 (gN F1 pt.2 (Ie 187) (pop F1))) 177 (va_up (Ie 177) 27 (nI (ins F1 pt.2))) := ⟨_, rfl⟩
  have nf : ∀ a, a ≠ 177 → a ≠ 187 → In a = Ie a := fun a h1 h2 => by rw [eIn, vu_ne h1, vu_ne h2]
  have n7 : ∀ k, k ≠ 27 → In 177 k = Ie 177 k := fun k hk => by rw [eIn, vu_eq, vu_ne hk]
  have n187 : ∀ b, b < 24 → In 187 b = nI (nr F1 pt.2 b) := fun b hb => by rw [eIn, vu_ne (by decide), vu_eq]; unfold gN; rw [if_pos hb, nrP_all]
  have w8 : va_up Ie 187 (gN F1 pt.2 (Ie 187) (pop F1)) 177 = Ie 177 := vu_ne (by decide)
  have n78 : In 178 = g := by rw [nf _ (by decide) (by decide)]; exact e78
  have hNS : NS In (ins F B) (ins F1 pt.2) (nr F B) (nr F1 pt.2) := ⟨by rw [n7 26 (by decide), ef _ (by decide)]; exact o26, by rw [eIn, vu_eq, vu_eq], fun b hb => by rw [nf _ (by decide) (by decide), ef _ (by decide)]; exact o186 b hb, n187, ins_lt _ _, ins_lt _ _, fun b => nr_lt _ _ _, fun b => nr_lt _ _ _⟩
  have bo := r_badOnes (X := X) (d := d) (I := In) (J := J) (al := al) (mks := mks) (by omega) hNS (by rw [n78, g0 1 (by decide) (by unfold inA; omega)]; exact hal) hal2 (fun k hk => by rw [n78, g0 _ (by omega) (by unfold inA; omega)]; exact hm k hk) hm4
  rw [bad_eq] at bo
  have rc := fun (M : Mem) => r_count (X := X) (d := d) (M := M) (x := badS F B F1 pt.2 al mks) (by omega) (bs_lt _)
  have ebd : pop (badS F B F1 pt.2 al mks) = bdY F1 al mks sg L wy (x, F, B, fi, yr, h, hi) := by unfold bdY; rw [← ept]
  have ekp : twi F B F1 pt.2 / 2 = kpY F1 al mks sg L wy (x, F, B, fi, yr, h, hi) := by unfold kpY; rw [← ept]
  rw [ebd] at rc
  obtain ⟨bd, fbd⟩ : ∃ bd, bd = bdY F1 al mks sg L wy (x, F, B, fi, yr, h, hi) := ⟨_, rfl⟩
  obtain ⟨kp, fkp⟩ : ∃ kp, kp = kpY F1 al mks sg L wy (x, F, B, fi, yr, h, hi) := ⟨_, rfl⟩
  have egd : gdY F1 al be mks sg L wy (x, F, B, fi, yr, h, hi) = decide (bd ≤ be) := by unfold gdY; rw [fbd]
  rw [← fbd] at rc
  have bd64 : bd ≤ 64 := by rw [fbd]; exact pop_le _
  have n2 : In 178 2 = nI be := by rw [n78, g0 2 (by decide) (by unfold inA; omega)]; exact hbe
  have n3 : In 178 3 = nI yr := by rw [n78, g0 3 (by decide) (by unfold inA; omega)]; exact c2
  have n4 : In 178 4 = nI h := by rw [n78, g0 4 (by decide) (by unfold inA; omega)]; exact c6
  rw [egd]
  obtain ⟨gd, fgd⟩ : ∃ gd, gd = decide (bd ≤ be) := ⟨_, rfl⟩
  rw [← fgd]
  -- who has met, and the year kept
  obtain ⟨G, eG⟩ : ∃ G, G = rM g (nr F1 pt.2) (nI yr) 576 24 := ⟨_, rfl⟩
  have G3 : ∀ i, i < 820 → G i = g i := fun i hi => by rw [eG]; unfold rM; rw [if_neg (by omega), if_neg (by omega)]
  obtain ⟨G2, eG2⟩ : ∃ G2, G2 = if h < 60 then va_up (va_up (kR G h (nI bd) (nI kp) (bI gd) (nr F1 pt.2) (lfv F1 pt.2) 24) 4 (nI (h + 1))) 3 (nI (yr + 1)) else va_up G 3 (nI (yr + 1)) := ⟨_, rfl⟩
  have kt : ∀ u7 : Value, Ev X d 231 18 [.ref 177, .int (nI k), .int (nI s), .int (if li < L then nI (16 * k + li) else -1), .int (nI bd), .int (bI gd), .int (nI 24), u7] [] (mk (va_up In 178 G) J) (some (.int (bI gd)), mk (va_up In 178 G2) J) := fun u7 => by
    obtain ⟨g2, t1, t2, t3⟩ := r_keepTail (X := X) (d := d) (I := va_up In 178 G) (J := J) (F := F1) (h := h) (yr := yr) (oi := ins F B) (ni := ins F1 pt.2) (kp := kp) (B := pt.2) (x := nr F B) (N := nr F1 pt.2) (k := nI k) (s := nI s) (n3 := if li < L then nI (16 * k + li) else -1) (bd := nI bd) (n6 := nI 24) (gd := gd) (u7 := u7) (by omega) (by rw [vu_eq]; exact RWl_tr (by decide) (fun i h1 h2 => G3 i (by omega)) (fun _ _ => rfl) e2) wb ⟨by rw [vu_ne (by decide)]; exact hNS.1, by rw [vu_ne (by decide)]; exact hNS.2.1, fun b hb => by rw [vu_ne (by decide)]; exact hNS.2.2.1 b hb, fun b hb => by rw [vu_ne (by decide)]; exact hNS.2.2.2.1 b hb, hNS.2.2.2.2⟩ (by rw [kept_eq, ekp, fkp]) (by rw [vu_eq, G3 4 (by decide), ← n78]; exact n4) o4 (by rw [vu_eq, G3 3 (by decide), ← n78]; exact n3) (by omega)
    rw [vu_eq] at t2 t3
    rw [vu_vu] at t1
    have e : g2 = G2 := by
      rw [eG2]
      by_cases z : h < 60
      · rw [if_pos z]; exact t3 z
      · rw [if_neg z]; exact t2 (by omega)
    rw [e] at t1
    exact t1
  have ml := r_meetLoop (X := X) (d := d) (I := In) (J := J) (N := nr F1 pt.2) (y := nI yr) (k := nI k) (s := nI s) (n3 := if li < L then nI (16 * k + li) else -1) (n4 := nI bd) (n5 := bI gd) (r := (some (.int (bI gd)), mk (va_up In 178 G2) J)) n187 (fun b => nr_lt _ _ _) n3 (by rw [n78, ← eG]; exact kt) (.retAddr 0)
  have GL : ∀ i, i ≠ 3 → i ≠ 4 → (i < 1430 ∨ 4490 ≤ i) → G2 i = G i := fun i h1 h2 h3 => by
    rw [eG2]
    by_cases z : h < 60
    · rw [if_pos z, vu_ne h1, vu_ne h2]
      unfold kR
      rw [if_neg (by omega), if_neg (by omega), if_neg (by omega), if_neg (by omega), if_neg (by omega)]
    · rw [if_neg z, vu_ne h1]
  have GH : ∀ i, 1426 ≤ i → G i = g i := fun i hi => by rw [eG]; unfold rM; rw [if_neg (by omega), if_neg (by omega)]
  refine ⟨va_up In 178 G2, ?_, ⟨?_, ?_, ?_, fun b c hb hc => ?_, fun b hb => ?_, ?_, fun y hy j hj => ?_⟩, ⟨fun a ha => ?_, fun j hj => ?_, fun i h1 h2 h3 h4 h5 => ?_⟩⟩
  · refine callF_at (by omega) (by decide) (Nat.le_of_ble_eq_true rfl) (fun d' hd' => ?_)
    obtain rfl : d = d' := by omega
    refine go _ ?_
    rw [eIo] at e1
    rw [eIn] at bo n2 ml ⊢
    cases gd with
    | true =>
      have lb : bd ≤ be := of_decide_eq_true fgd.symm
      simp (disch := first | omega | assumption | exact rfl) only [U_231_6, U_231_7, U_231_9, XX, QQ, WW, KK, QX, SHs, RRs, Nat.reduceAdd, Nat.reduceMul, Nat.reduceLeDiff, Nat.reduceEqDiff, List.length_cons, List.length_nil, decide_true, decide_false, Bool.true_and, Bool.and_true, Bool.false_and, Bool.and_false, false_and, and_false, Bool.false_eq_true, Bool.true_eq_false, reduceCtorEq, eq_self, if_true, if_false, true_and, and_true, not_true_eq_false, not_false_eq_true, if_pos, if_neg, z_ite_not, false_or, or_false, true_or, or_true, SWs, swk_0, swk_1, b1, q1, w7', e1, q2, w8, bo, rc, n2]
      exact ml
    | false =>
      have lb : ¬ bd ≤ be := of_decide_eq_false fgd.symm
      simp (disch := first | omega | assumption | exact rfl) only [U_231_6, U_231_8, U_231_9, XX, QQ, WW, KK, QX, SHs, RRs, Nat.reduceAdd, Nat.reduceMul, Nat.reduceLeDiff, Nat.reduceEqDiff, List.length_cons, List.length_nil, decide_true, decide_false, Bool.true_and, Bool.and_true, Bool.false_and, Bool.and_false, false_and, and_false, Bool.false_eq_true, Bool.true_eq_false, reduceCtorEq, eq_self, if_true, if_false, true_and, and_true, not_true_eq_false, not_false_eq_true, if_pos, if_neg, z_ite_not, false_or, or_false, true_or, or_true, SWs, swk_0, swk_1, b1, q1, w7', e1, q2, w8, bo, rc, n2, lb]
      exact ml
  · rw [vu_eq, GL 0 (by decide) (by decide) (by decide), G3 0 (by decide), e3 0 (by unfold inA; omega), of _ (by decide) (by decide), b3, vu_eq, ept]; rfl
  · rw [vu_eq, eG2]
    split
    · rw [vu_eq]; rfl
    · rw [vu_eq]; rfl
  · rw [vu_eq]
    have e := RWl_tr (f := g) (g := G2) (B' := pt.2) (by decide) (fun i h1 h2 => by rw [GL i (by omega) (by omega) (by omega), G3 i (by omega)]) (fun _ _ => rfl) e2
    rw [ept] at e
    exact e
  · rw [vu_eq, GL _ (by omega) (by omega) (by omega), eG]
    have gv : g (850 + 24 * b + c) = fi b c := by rw [g0 _ (by omega) (by unfold inA; omega)]; exact c4 b c hb hc
    show _ = fiN fi (nI yr) (nr F1 (ptY F1 al mks sg L wy (x, F, B, fi, yr, h, hi)).2) b c
    rw [← ept]
    unfold rM fiN
    rw [gv, show (850 + 24 * b + c - 850) / 24 = b by omega, show (850 + 24 * b + c - 850) % 24 = c by omega]
    by_cases z : fi b c = -1 ∧ (nr F1 pt.2 b).testBit c = true
    · rw [if_pos ⟨by omega, by omega, z.1, z.2⟩, if_pos (cd_iff.mpr z)]
    · rw [if_neg (fun q => z ⟨q.2.2.1, q.2.2.2⟩), if_neg (by omega), if_neg (by rw [cd_iff]; exact z)]
  · rw [vu_eq, GL _ (by omega) (by omega) (by omega), eG]
    have gv : g (820 + b) = nI (mtS fi b) := by rw [g0 _ (by omega) (by unfold inA; omega)]; exact c5 b hb
    show _ = nI (mtS (fiN fi (nI yr) (nr F1 (ptY F1 al mks sg L wy (x, F, B, fi, yr, h, hi)).2)) b)
    rw [← ept, ← mtS_N (by omega) (nr_lt _ _ _), ← fa_or, ← gv]
    unfold rM
    rw [if_neg (by omega), if_pos (by omega), show 820 + b - 820 = b by omega]
  · rw [vu_eq, eG2]
    show _ = nI (if h < 60 then h + 1 else h)
    by_cases z : h < 60
    · rw [if_pos z, if_pos z, vu_ne (by decide), vu_eq]
    · rw [if_neg z, if_neg z, vu_ne (by decide), G3 4 (by decide), ← n78]; exact n4
  · have hy : y < (if h < 60 then h + 1 else h) := hy
    show va_up In 178 G2 178 (1430 + 51 * y + j) = (if h < 60 then va_up hi h (rwY F1 al be mks sg L wy (x, F, B, fi, yr, h, hi)) else hi) y j
    rw [vu_eq, eG2]
    have old : y < h → g (1430 + 51 * y + j) = hi y j := fun q => by rw [g0 _ (by omega) (by unfold inA; omega)]; exact c7 y q j hj
    by_cases z : h < 60
    · rw [if_pos z] at hy
      rw [if_pos z, if_pos z, vu_ne (by omega), vu_ne (by omega)]
      by_cases q : y = h
      · subst q
        rw [vu_eq]
        unfold kR rwY
        rw [egd, ← fbd, ← fkp, ← fgd, ← ept]
        by_cases j0 : j = 0
        · rw [if_pos (by omega), if_pos j0]
        · rw [if_neg (by omega), if_neg j0]
          by_cases j1 : j = 1
          · rw [if_pos (by omega), if_pos j1]
          · rw [if_neg (by omega), if_neg j1]
            by_cases j2 : j = 2
            · rw [if_pos (by omega), if_pos j2]
            · rw [if_neg (by omega), if_neg j2]
              by_cases j3 : j < 27
              · rw [if_pos (by omega), if_pos j3, show 1430 + 51 * y + j - (1430 + 51 * y + 3) = j - 3 by omega]
              · rw [if_neg (by omega), if_pos (by omega), if_neg j3, show 1430 + 51 * y + j - (1430 + 51 * y + 27) = j - 27 by omega]
      · rw [vu_ne q]
        unfold kR
        rw [if_neg (by omega), if_neg (by omega), if_neg (by omega), if_neg (by omega), if_neg (by omega), GH _ (by omega)]
        exact old (by omega)
    · rw [if_neg z] at hy
      rw [if_neg z, if_neg z, vu_ne (by omega), GH _ (by omega)]
      exact old hy
  · rw [vu_ne (by omega), nf a (by omega) (by omega), ef a (by omega), of a (by omega) (by omega), b4 a ha]
    rcases ha with ha | ha | ha
    · exact a2.1 a ha
    · subst ha; exact a2.2.2.1
    · subst ha; exact a2.2.2.2.1
  · rw [vu_ne (by decide), n7 j (by omega), ef _ (by decide), o7 j (by omega), b5 j hj]
    exact a2.2.2.2.2 j hj
  · rw [vu_eq, GL i h2 h3 (by omega)]
    rcases h5 with h5 | h5
    · rw [G3 i h5]; exact g0 i h1 h4
    · rw [GH i (by omega)]; exact g0 i h1 h4
