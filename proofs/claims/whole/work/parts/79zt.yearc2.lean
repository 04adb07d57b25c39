/-! ===== a year: the class ===== -/
def LnY (I : Nat → Nat → Int32) (k L : Nat) (sg : Nat → List (Nat × Nat)) (wy : Nat → Nat × Nat) : Prop := L ≤ 16 ∧ I (38 + 8 * k) 0 = nI L ∧ I 178 (4490 + k) = nI L ∧ ∀ i, i < L → RuL I (38 + 8 * k) 178 k i (sg i) ∧ (wy i).1 < 7 ∧ (wy i).2 ≤ 9999 ∧ I (38 + 8 * k + 1) i = nI (wy i).1 ∧ ((wy i).1 = 1 → I (38 + 8 * k + 2) i = nI (wy i).2) ∧ I 178 (4500 + 16 * k + i) = nI (wy i).1 ∧ ((wy i).1 = 1 → I 178 (4550 + 16 * k + i) = nI (wy i).2)
theorem RuL_fr {I I' : Nat → Nat → Int32} {R k i : Nat} {l : List (Nat × Nat)} (hR : ∀ j, 1 ≤ j → j ≤ 5 → I' (R + j) = I (R + j)) (hr : ∀ i, 4490 ≤ i → I' 178 i = I 178 i) (h : RuL I R 178 k i l) : RuL I' R 178 k i l := by
  obtain ⟨way, by_, s, e, f, t, q1, q2, q3, q4, q5, q6, q7, q8, q9, q10, q11, q12, q13, q14, q15⟩ := h
  refine ⟨way, by_, s, e, f, t, q1, by rw [hR 1 (by decide) (by decide)]; exact q2, by rw [hr _ (by omega)]; exact q3, fun z => ?_, by rw [hR 3 (by decide) (by decide)]; exact q5, by rw [hR 4 (by decide) (by decide)]; exact q6, q7, by rw [hr _ (by omega)]; exact q8, by rw [hr _ (by omega)]; exact q9, q10, q11, q12, ?_, fun j hj => ?_, q15⟩
  · rw [hR 2 (by decide) (by decide), hr _ (by omega)]; exact q4 z
  · rw [hR 5 (by decide) (by decide)]; exact q13
  · rw [hr _ (by omega), hr _ (by omega)]; exact q14 j hj
theorem LnY_fr {I I' : Nat → Nat → Int32} {k L : Nat} {sg : Nat → List (Nat × Nat)} {wy : Nat → Nat × Nat} (h0 : I' (38 + 8 * k) 0 = I (38 + 8 * k) 0) (hR : ∀ j, 1 ≤ j → j ≤ 5 → I' (38 + 8 * k + j) = I (38 + 8 * k + j)) (hr : ∀ i, 4490 ≤ i → I' 178 i = I 178 i) (h : LnY I k L sg wy) : LnY I' k L sg wy := by
  obtain ⟨h1, h2, h3, h4⟩ := h
  refine ⟨h1, by rw [h0]; exact h2, by rw [hr _ (by omega)]; exact h3, fun i hi => ?_⟩
  obtain ⟨x1, x2, x3, x4, x5, x6, x7⟩ := h4 i hi
  exact ⟨RuL_fr hR hr x1, x2, x3, by rw [hR 1 (by decide) (by decide)]; exact x4, by rw [hR 2 (by decide) (by decide)]; exact x5, by rw [hr _ (by omega)]; exact x6, by rw [hr _ (by omega)]; exact x7⟩
/-- what a year changes of the class's cells -/
def CFy (k : Nat) (I I' : Nat → Nat → Int32) (J J' : Nat → Nat → Int64) : Prop := (∀ a, a ≠ 1 → a ≠ 38 + 8 * k → a ≠ 38 + 8 * k + 6 → a ≠ 38 + 8 * k + 7 → (a < 7 ∨ 17 < a) → (a < 137 ∨ 176 < a) → I' a = I a) ∧ (∀ i, i ≠ 0 → i ≠ 3 → i ≠ 4 → I' 1 i = I 1 i) ∧ (∀ j, j ≠ 9 → I' (38 + 8 * k) j = I (38 + 8 * k) j) ∧ (∀ a, a < 137 → a ≠ 14 → J' a = J a)
/-- the fresh wall is put up and compared -/
theorem c_putCmp {X : Nat × (Nat → Int32)} {d : Nat} {I : Nat → Nat → Int32} {J : Nat → Nat → Int64} {F F1 w y al : Nat} {u : Int32} {B : Nat → Int32} {mks : Nat → Nat} (hd : 6 ≤ d) (hw : w < 7) (hy : y ≤ 9999) (hu : w = 1 → u = nI y) (hV : WG (mk I J) 14 F) (hBv : ∀ i, i < 24 → I 15 i = B i) (hB0 : WB B (pop F)) (hF1 : F1 < 2 ^ 64) (h24' : pop F1 ≤ 24) (h0 : 0 < pop F1) (hal : I 1 1 = nI al) (hal2 : al < 2) (hm : ∀ k, k < 24 → I 2 k = nI (mks k)) (hm4 : ∀ k, k < 24 → mks k < 4) :
    ∃ I1 J1 v I2, callF X d 12 [.ref 140, .ref 1, .ref 14, .long (lN F1), .int (nI w), .int u] (mk I J) = some (some (.int v), mk I1 J1) ∧ callF X d 127 [.ref 0, .ref 14, .ref 145] (mk I1 J1) = some (none, mk I2 J1) ∧ WG (mk I2 J1) 145 F1 ∧ WG (mk I2 J1) 14 F ∧ (∀ k, k < 24 → I2 146 k = (ptF w y F B F1 al mks (I 1 0)).2 k) ∧ I2 1 = va_up (I 1) 0 (ptF w y F B F1 al mks (I 1 0)).1 ∧ I2 137 4 = nI (pop (badS F B F1 (ptF w y F B F1 al mks (I 1 0)).2 al mks)) ∧ I2 137 5 = nI (twi F B F1 (ptF w y F B F1 al mks (I 1 0)).2 / 2) ∧ (∀ a, a ≠ 1 → (a < 137 ∨ 176 < a) → I2 a = I a) ∧ (∀ a, a < 137 → J1 a = J a) := by
  obtain ⟨I1, J1, p1, p2, p3, p4, p5, p6⟩ := c_putUp (X := X) (d := d) (I := I) (J := J) (V := 14) (F0 := F) (F1 := F1) (w := w) (y := y) (al := al) (u := u) (B := B) (mks := mks) hd hw hy hu (by decide) hV hBv hB0 hF1 h24' h0 hal hal2 hm hm4 (by decide)
  have wb := pt_WB (w := w) (y := y) (F0 := F) (F1 := F1) (al := al) (B := B) (mks := mks) (x := I 1 0) hB0 h0
  obtain ⟨pt, ept⟩ : ∃ pt, pt = ptF w y F B F1 al mks (I 1 0) := ⟨_, rfl⟩
  rw [← ept] at p3 p4 wb ⊢
  have hW1 : WG (mk I1 J1) 14 F := WG_fr hV (fun a h1 h2 => p5 a (by omega) (by omega)) (p6 14 (by decide))
  have h24 := hV.2.2.1
  have b15 : ∀ i, i < 24 → I1 15 i = B i := fun i hi => by rw [p5 15 (by decide) (by decide)]; exact hBv i hi
  have i11 : I1 1 1 = nI al := by rw [p4, vu_ne (by decide)]; exact hal
  have cm := c_compare (X := X) (d := d) (I := I1) (J := J1) (W1 := 14) (W2 := 145) (F1 := F) (F2 := F1) (al := al) (mks := mks) (by omega) hW1 (WB_tr h24 b15 hB0) p2 (WB_tr h24' p3 wb) (by decide) (by decide) i11 hal2 (fun k hk => by rw [p5 2 (by decide) (by decide)]; exact hm k hk) hm4
  obtain ⟨n1, n2⟩ := near_cg (F1 := F) (F2 := F1) (al := al) (mks := mks) (B1 := I1 15) (B1' := B) (B2 := I1 146) (B2' := pt.2) (fun i hi => b15 i (by omega)) (fun i hi => p3 i (by omega))
  obtain ⟨I2, e2⟩ : ∃ I2, I2 = Inear I1 F (I1 15) F1 (I1 146) al mks := ⟨_, rfl⟩
  have cm : callF X d 127 [.ref 0, .ref 14, .ref 145] (mk I1 J1) = some (none, mk I2 J1) := by rw [e2]; exact cm
  have fr : ∀ a, a < 137 ∨ 139 < a → I2 a = I1 a := fun a h => by rw [e2]; exact In_fr h
  refine ⟨I1, J1, _, I2, p1, cm, WG_fr p2 (fun a h1 h2 => fr a (by omega)) rfl, WG_fr hW1 (fun a h1 h2 => fr a (by omega)) rfl, fun k hk => by rw [fr 146 (by decide)]; exact p3 k hk, by rw [fr 1 (by decide)]; exact p4, by rw [e2, In_4, n1], by rw [e2, In_5, n2], fun a h1 h2 => by rw [fr a (by omega)]; exact p5 a h1 h2, p6⟩
theorem c_year {X : Nat × (Nat → Int32)} {d : Nat} {I : Nat → Nat → Int32} {J : Nat → Nat → Int64} {k F1 al be L : Nat} {mks : Nat → Nat} {sg : Nat → List (Nat × Nat)} {wy : Nat → Nat × Nat} {s : YrS} (hd : 8 ≤ d) (hk : k < 3) (hC : CWY I J s) (hO : YOk s) (hyr : s.2.2.2.2.1 ≤ 998) (hF1 : F1 < 2 ^ 64) (h24' : pop F1 ≤ 24) (h0 : 0 < pop F1) (hal : I 1 1 = nI al) (hal2 : al < 2) (hbe : I 1 2 = nI be) (hbe2 : be ≤ 24) (hm : ∀ k, k < 24 → I 2 k = nI (mks k)) (hm4 : ∀ k, k < 24 → mks k < 4) (hL : LnY I k L sg wy) :
    ∃ I' J', callF X d 133 [.ref 0, .ref (38 + 8 * k), .long (lN F1)] (mk I J) = some (some (.int (bI (gdY F1 al be mks sg L wy s))), mk I' J') ∧ CWY I' J' (nxY F1 al be mks sg L wy s) ∧ CFy k I I' J J' := by
  obtain ⟨x, F, B, fi, yr, h, hi⟩ := s
  obtain ⟨c1, c2, c3, c4, c5, c6, c7⟩ := hC
  obtain ⟨o1, o2, o3, o4, o5⟩ := hO
  dsimp only at c1 c2 c3 c4 c5 c6 c7 o1 o2 o3 o4 o5 hyr
  obtain ⟨l1, l2, l3, l4⟩ := id hL
  have RL := RLA_k hk
  obtain ⟨R, eR⟩ : ∃ R, R = 38 + 8 * k := ⟨_, rfl⟩
  rw [← eR] at RL l2 l4 ⊢
  obtain ⟨d, rfl⟩ : ∃ d', d = d' + 1 := ⟨d - 1, by omega⟩
  obtain ⟨Ia, Ja, va, Ib, a1, a2, a3, a4, a5, a6, a7, a8, a9, a10⟩ := c_putCmp (X := X) (d := d) (I := I) (J := J) (F := F) (F1 := F1) (w := 0) (y := 0) (al := al) (u := nI 0) (B := B) (mks := mks) (by omega) (by decide) (by decide) (fun _ => rfl) c3 c4 o1 hF1 h24' h0 hal hal2 hm hm4
  rw [c1] at a5 a6 a7 a8
  have p01 : (ptF 0 0 F B F1 al mks x).1 = x := by unfold ptF; rw [if_neg (by decide), if_neg (by decide), if_neg (by decide)]
  rw [p01, vu_same c1] at a6
  have fb : ∀ a, (a < 137 ∨ 176 < a) → Ib a = I a := fun a ha => by
    by_cases z : a = 1
    · subst z; exact a6
    · exact a9 a z ha
  have hLb : LnY Ib k L sg wy := LnY_fr (by rw [fb _ (by omega)]) (fun j h1 h2 => fb _ (by omega)) (fun i hi => by rw [fb 178 (by decide)]) hL
  obtain ⟨_, lb2, _, lb4⟩ := id hLb
  rw [← eR] at lb2 lb4
  obtain ⟨vs, evs⟩ : ∃ vs, vs = vsY yr F B F1 al mks x fi := ⟨_, rfl⟩
  obtain ⟨Ic, d1, d2, d3⟩ := c_lineFor (X := X) (d := d) (I := Ib) (J := Ja) (L := L) (sg := sg) (vs := vs) (r := 178) (k := k) (R := R) (x1 := nI yr) (x2 := nI (pop F1)) (x3 := nI (pop (badS F B F1 (ptF 0 0 F B F1 al mks x).2 al mks))) (x4 := nI (twi F B F1 (ptF 0 0 F B F1 al mks x).2 / 2)) (x5 := nI (metN fi)) (by omega) RL l1 lb2 (fun i hi => (lb4 i hi).1) (by rw [evs]; exact ⟨rfl, rfl, rfl, rfl, rfl⟩)
  rw [fkO_is] at d1
  obtain ⟨li, eli⟩ : ∃ li, li = fa_first (lnY sg vs) L := ⟨_, rfl⟩
  rw [← eli, Nat.zero_add] at d1
  have eln : lnI sg L (vsY yr F B F1 al mks x fi) = li := by rw [eli, evs]; rfl
  -- what stands behind the line
  have mid : ∃ Ie Je, (∀ r, (∀ v6 : Value, Ev X d 133 2 [.ref 0, .ref R, .long (lN F1), .retAddr 0, .ref 14, .int (if li < L then nI li else -1), v6] [] (mk Ie Je) r) → Ev X d 133 0 [.ref 0, .ref R, .long (lN F1), .retAddr 0, .retAddr 0, .retAddr 0, .retAddr 0] [] (mk I J) r) ∧ WG (mk Ie Je) 145 F1 ∧ (∀ q, q < 24 → Ie 146 q = (ptY F1 al mks sg L wy (x, F, B, fi, yr, h, hi)).2 q) ∧ Ie 1 = va_up (I 1) 0 (ptY F1 al mks sg L wy (x, F, B, fi, yr, h, hi)).1 ∧ Ie 137 4 = nI (bdY F1 al mks sg L wy (x, F, B, fi, yr, h, hi)) ∧ Ie 137 5 = nI (kpY F1 al mks sg L wy (x, F, B, fi, yr, h, hi)) ∧ (∀ a, a ≠ 1 → a ≠ R → a ≠ R + 6 → a ≠ R + 7 → (a < 137 ∨ 176 < a) → Ie a = I a) ∧ (∀ j, j ≠ 9 → Ie R j = I R j) ∧ (∀ a, a < 137 → Je a = J a) := by
    have b13 : Ib 1 3 = nI yr := by rw [a6]; exact c2
    have b14 : Ib 1 4 = nI (metN fi) := by rw [a6]; exact c5.2
    have b145 : Ib 145 1 = nI (pop F1) := a3.2.2.2.2.1
    have cf : ∀ a, a ≠ R → a ≠ R + 6 → a ≠ R + 7 → (a < 137 ∨ 176 < a) → Ic a = I a := fun a h1 h2 h3 h4 => by rw [d2 a h1 h2 h3, fb a h4]
    have cj : ∀ j, j ≠ 9 → Ic R j = I R j := fun j hj => by rw [d3 j hj, fb R (by omega)]
    by_cases z : li < L
    · rw [if_pos z] at d1
      have ePt : ptY F1 al mks sg L wy (x, F, B, fi, yr, h, hi) = ptF (wy li).1 (wy li).2 F B F1 al mks x := by
        unfold ptY; dsimp only; rw [eln, if_pos z]
      unfold bdY kpY
      rw [ePt, if_pos z]
      obtain ⟨y1, y2, y3, y4, y5, _, _⟩ := lb4 li z
      have wo := c_wayOf (X := X) (d := d) (I := Ic) (J := Ja) (R := R) (L := L) (i := li) (by omega) RL (by rw [cj 0 (by decide)]; exact l2) l1 z
      have bo := c_byOf (X := X) (d := d) (I := Ic) (J := Ja) (R := R) (L := L) (i := li) (by omega) RL (by rw [cj 0 (by decide)]; exact l2) l1 z
      rw [d2 (R + 1) (by omega) (by omega) (by omega), y4] at wo
      rw [d2 (R + 2) (by omega) (by omega) (by omega)] at bo
      obtain ⟨u, eu⟩ : ∃ u, u = Ib (R + 2) li := ⟨_, rfl⟩
      rw [← eu] at bo y5
      have c1' : Ic 1 = I 1 := cf 1 (by omega) (by omega) (by omega) (by decide)
      obtain ⟨If, Jf, vf, Ie, f1, f2, f3, f4, f5, f6, f7, f8, f9, f10⟩ := c_putCmp (X := X) (d := d) (I := Ic) (J := Ja) (F := F) (F1 := F1) (w := (wy li).1) (y := (wy li).2) (al := al) (u := u) (B := B) (mks := mks) (by omega) y2 y3 y5 (WG_fr a4 (fun a h1 h2 => d2 a (by omega) (by omega) (by omega)) rfl) (fun i hi => by rw [cf 15 (by omega) (by omega) (by omega) (by decide)]; exact c4 i hi) o1 hF1 h24' h0 (by rw [c1']; exact hal) hal2 (fun k hk => by rw [cf 2 (by omega) (by omega) (by omega) (by decide)]; exact hm k hk) hm4
      rw [c1', c1] at f5 f6 f7 f8
      refine ⟨Ie, Jf, fun r H => ?_, f3, f5, f6, f7, f8, fun a h1 h2 h3 h4 h5 => by rw [f9 a h1 h5, cf a h2 h3 h4 h5], fun j hj => by rw [f9 R (by omega) (by omega)]; exact cj j hj, fun a ha => by rw [f10 a ha]; exact a10 a ha⟩
      have ln : ¬ nI li = -1 := nI_ne (by omega)
      have sR := RL.1
      simp (disch := first | omega | assumption | exact rfl) only [U_133_0, U_133_1, XX, QQ, WW, KK, QX, SHs, RRs, Nat.reduceAdd, Nat.reduceMul, Nat.reduceLeDiff, Nat.reduceEqDiff, List.length_cons, List.length_nil, decide_true, decide_false, Bool.true_and, Bool.and_true, Bool.false_and, Bool.and_false, false_and, and_false, Bool.false_eq_true, Bool.true_eq_false, reduceCtorEq, eq_self, if_true, if_false, true_and, and_true, not_true_eq_false, not_false_eq_true, if_pos, if_neg, z_ite_not, false_or, or_false, true_or, or_true, SWs, swk_0, swk_1, sR, a1, a2, b13, b14, b145, a7, a8, d1, ln, wo, bo, f1, f2, cS, false_or]
      exact H _
    · rw [if_neg z] at d1
      have ePt : ptY F1 al mks sg L wy (x, F, B, fi, yr, h, hi) = ptF 0 0 F B F1 al mks x := by
        unfold ptY; dsimp only; rw [eln, if_neg z]
      unfold bdY kpY
      rw [ePt, if_neg z, p01]
      have sc : ∀ a, 136 < a → Ic a = Ib a := fun a ha => d2 a (by omega) (by omega) (by omega)
      refine ⟨Ic, Ja, fun r H => ?_, WG_fr a3 (fun a h1 h2 => sc a (by omega)) rfl, fun q hq => by rw [sc 146 (by decide)]; exact a5 q hq, by rw [cf 1 (by omega) (by omega) (by omega) (by decide), vu_same c1], by rw [sc 137 (by decide)]; exact a7, by rw [sc 137 (by decide)]; exact a8, fun a h1 h2 h3 h4 h5 => cf a h2 h3 h4 h5, cj, a10⟩
      have sR := RL.1
      simp (disch := first | omega | assumption | exact rfl) only [U_133_0, XX, QQ, WW, KK, QX, SHs, RRs, Nat.reduceAdd, Nat.reduceMul, Nat.reduceLeDiff, Nat.reduceEqDiff, List.length_cons, List.length_nil, decide_true, decide_false, Bool.true_and, Bool.and_true, Bool.false_and, Bool.and_false, false_and, and_false, Bool.false_eq_true, Bool.true_eq_false, reduceCtorEq, eq_self, if_true, if_false, true_and, and_true, not_true_eq_false, not_false_eq_true, if_pos, if_neg, z_ite_not, false_or, or_false, true_or, or_true, SWs, swk_0, swk_1, sR, a1, a2, b13, b14, b145, a7, a8, d1]
      exact H _
  obtain ⟨Ie, Je, m1, m2, m3, m4, m5, m6, m7, m8, m9⟩ := mid
  obtain ⟨_, wb⟩ := nxY_ok (be := be) (F1 := F1) (al := al) (L := L) (mks := mks) (sg := sg) (wy := wy) (s := (x, F, B, fi, yr, h, hi)) ⟨o1, o2, o3, o4, o5⟩ h24' h0
  have ef : ∀ a, a ≠ 1 → a < 38 → Ie a = I a := fun a h1 h2 => m7 a h1 (by omega) (by omega) (by omega) (by omega)
  have i1 : ∀ i, i ≠ 0 → Ie 1 i = I 1 i := fun i hi => by rw [m4, vu_ne hi]
  have bd24 : bdY F1 al mks sg L wy (x, F, B, fi, yr, h, hi) ≤ 64 := pop_le _
  obtain ⟨I', J', n1, n2, n3, n4, n5, n6, n7, n8, n9, n10, n11⟩ := c_year2 (X := X) (d := d) (I := Ie) (J := Je) (R := R) (F1 := F1) (be := be) (bd := bdY F1 al mks sg L wy (x, F, B, fi, yr, h, hi)) (kp := kpY F1 al mks sg L wy (x, F, B, fi, yr, h, hi)) (h := h) (yr := yr) (B := (ptY F1 al mks sg L wy (x, F, B, fi, yr, h, hi)).2) (fi := fi) (v5 := if li < L then nI li else -1) (by omega) m2 m3 wb m5 m6 bd24 (by rw [i1 2 (by decide)]; exact hbe) hbe2 (by rw [ef 8 (by decide) (by decide)]; exact c6) o4 o3 ⟨fun p q h1 h2 => by rw [ef 7 (by decide) (by decide)]; exact c5.1 p q h1 h2, by rw [i1 4 (by decide)]; exact c5.2⟩ (by rw [i1 3 (by decide)]; exact c2) hyr
  refine ⟨I', J', ?_, ⟨?_, n5, n2, n3, n4, n6, fun y hy => ?_⟩, ?_⟩
  · refine callF_at (by omega) (by decide) (Nat.le_of_ble_eq_true rfl) (fun d' hd' => ?_)
    obtain rfl : d = d' := by omega
    exact m1 _ n1
  · rw [n10 0 (by decide) (by decide), m4, vu_eq]; rfl
  · have hy : y < (if h < 60 then h + 1 else h) := hy
    show I' 9 y = (if h < 60 then va_up hi h (rwY F1 al be mks sg L wy (x, F, B, fi, yr, h, hi)) else hi) y 0 ∧ I' 10 y = (if h < 60 then va_up hi h (rwY F1 al be mks sg L wy (x, F, B, fi, yr, h, hi)) else hi) y 1 ∧ I' 11 y = (if h < 60 then va_up hi h (rwY F1 al be mks sg L wy (x, F, B, fi, yr, h, hi)) else hi) y 2 ∧ ∀ b, b < 24 → I' 12 (y * 24 + b) = (if h < 60 then va_up hi h (rwY F1 al be mks sg L wy (x, F, B, fi, yr, h, hi)) else hi) y (3 + b) ∧ I' 13 (y * 24 + b) = (if h < 60 then va_up hi h (rwY F1 al be mks sg L wy (x, F, B, fi, yr, h, hi)) else hi) y (27 + b)
    have old : y < h → I' 9 y = hi y 0 ∧ I' 10 y = hi y 1 ∧ I' 11 y = hi y 2 ∧ ∀ b, b < 24 → I' 12 (y * 24 + b) = hi y (3 + b) ∧ I' 13 (y * 24 + b) = hi y (27 + b) := fun hl => by
      obtain ⟨t1, t2, t3, t4⟩ := n8 y hl
      obtain ⟨w1, w2, w3, w4⟩ := c7 y hl
      rw [t1, t2, t3, ef 9 (by decide) (by decide), ef 10 (by decide) (by decide), ef 11 (by decide) (by decide)]
      refine ⟨w1, w2, w3, fun b hb => ?_⟩
      rw [(t4 b hb).1, (t4 b hb).2, ef 12 (by decide) (by decide), ef 13 (by decide) (by decide)]
      exact w4 b hb
    by_cases z : h < 60
    · rw [if_pos z] at hy ⊢
      by_cases q : y = h
      · subst q
        obtain ⟨t1, t2, t3, t4⟩ := n7 z
        rw [vu_eq]
        refine ⟨t1, t2, t3, fun b hb => ⟨?_, ?_⟩⟩
        · rw [(t4 b hb).1]; unfold rwY
          rw [if_neg (by omega), if_neg (by omega), if_neg (by omega), if_pos (by omega), show 3 + b - 3 = b by omega]
        · rw [(t4 b hb).2]; unfold rwY
          rw [if_neg (by omega), if_neg (by omega), if_neg (by omega), if_neg (by omega), show 27 + b - 27 = b by omega]
      · rw [vu_ne q]; exact old (by omega)
    · rw [if_neg z] at hy ⊢
      exact old hy
  · subst eR
    refine ⟨fun a h1 h2 h3 h4 h5 h6 => ?_, fun i h1 h2 h3 => ?_, fun j hj => ?_, fun a h1 h2 => ?_⟩
    · rw [n9 a h1 h5, m7 a h1 h2 h3 h4 h6]
    · rw [n10 i h2 h3, i1 i h1]
    · rw [n9 _ (by omega) (by omega)]; exact m8 j hj
    · rw [n11 a h2, m9 a h1]
