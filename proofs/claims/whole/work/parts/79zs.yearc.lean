/-! ===== a year: the class, when the fresh wall stands ===== -/
theorem ky_at {g : Nat → Int32} {h b m : Nat} {B : Nat → Int32} {z : Int32} {w : Nat → Int32} (hb : b < 24) : kyS g (h * 24) B z w m (h * 24 + b) = if cd (∃ i, i < m ∧ B i = nI b) = true then w b else z := by
  unfold kyS
  rw [if_pos (by omega), show h * 24 + b - h * 24 = b by omega]
theorem ky_out {g : Nat → Int32} {h b y m : Nat} {B : Nat → Int32} {z : Int32} {w : Nat → Int32} (hb : b < 24) (hy : y < h) : kyS g (h * 24) B z w m (y * 24 + b) = g (y * 24 + b) := by
  unfold kyS
  rw [if_neg (by omega)]
theorem c_year2 {X : Nat × (Nat → Int32)} {d : Nat} {I : Nat → Nat → Int32} {J : Nat → Nat → Int64} {R F1 be bd kp h yr : Nat} {B : Nat → Int32} {fi : Nat → Nat → Int32} {v5 : Int32} (hd : 5 ≤ d) (hW : WG (mk I J) 145 F1) (hE : ∀ i, i < 24 → I 146 i = B i) (hB : WB B (pop F1)) (h4 : I 137 4 = nI bd) (h5 : I 137 5 = nI kp) (hbd : bd ≤ 64) (hbe : I 1 2 = nI be) (hbe2 : be ≤ 24) (h0 : I 8 0 = nI h) (hh : h ≤ 60) (hok : fiOk fi) (hM : MT I fi) (hy : I 1 3 = nI yr) (hyr : yr ≤ 998) :
    ∃ I' J', (∀ v6 : Value, Ev X d 133 2 [.ref 0, .ref R, .long (lN F1), .retAddr 0, .ref 14, .int v5, v6] [] (mk I J) (some (.int (bI (decide (bd ≤ be)))), mk I' J')) ∧ WG (mk I' J') 14 F1 ∧ (∀ i, i < 24 → I' 15 i = B i) ∧ MT I' (fiN fi (nI yr) (nr F1 B)) ∧ I' 1 3 = nI (yr + 1) ∧ I' 8 0 = nI (if h < 60 then h + 1 else h) ∧ (h < 60 → I' 9 h = nI bd ∧ I' 10 h = nI kp ∧ I' 11 h = bI (decide (bd ≤ be)) ∧ ∀ b, b < 24 → I' 12 (h * 24 + b) = nI (nr F1 B b) ∧ I' 13 (h * 24 + b) = lfv F1 B b) ∧ (∀ y, y < h → I' 9 y = I 9 y ∧ I' 10 y = I 10 y ∧ I' 11 y = I 11 y ∧ ∀ b, b < 24 → I' 12 (y * 24 + b) = I 12 (y * 24 + b) ∧ I' 13 (y * 24 + b) = I 13 (y * 24 + b)) ∧ (∀ a, a ≠ 1 → (a < 7 ∨ 17 < a) → I' a = I a) ∧ (∀ i, i ≠ 3 → i ≠ 4 → I' 1 i = I 1 i) ∧ (∀ a, a ≠ 14 → J' a = J a) := by
  have h24 := hW.2.2.1
  obtain ⟨Ia, Ja, a1, a2, a3, a4, a5⟩ := c_copyG (X := X) (d := d) (I := I) (J := J) (W := 14) (V := 145) (by omega) (WA_0 (a := 0) (by decide)) hW (by decide)
  have Bv : ∀ i, i < 24 → Ia 15 i = B i := fun i hi => (a3 i hi).trans (hE i hi)
  have hBa : WB (Ia 15) (pop F1) := WB_tr h24 Bv hB
  have ib := c_isBorne (X := X) (d := d) (I := Ia) (J := Ja) (x := bd) (be := be) (by omega) (by rw [a4 137 (by decide)]; exact h4) hbd (by rw [a4 1 (by decide)]; exact hbe) hbe2
  obtain ⟨gd, egd⟩ : ∃ gd, gd = decide (bd ≤ be) := ⟨_, rfl⟩
  rw [← egd] at ib ⊢
  obtain ⟨Ik, k1, k2, k3, k4⟩ := c_keepYear (X := X) (d := d) (I := Ia) (J := Ja) (W := 14) (F := F1) (h := h) (bd := nI bd) (kp := nI kp) (gd := bI gd) (by omega) a2 (by decide) hBa (by rw [a4 8 (by decide)]; exact h0) hh
  have hWk : WG (mk Ik Ja) 14 F1 := WG_fr a2 (fun a h1 h2 => k2 a (by omega)) rfl
  obtain ⟨Im, m1, m2, m3⟩ := c_meet (X := X) (d := d) (I := Ik) (J := Ja) (W := 14) (F := F1) (yr := yr) (fi := fi) (by omega) hWk (by decide) (by rw [k2 15 (by decide)]; exact hBa) hok ⟨fun p q h1 h2 => by rw [k2 7 (by decide), a4 7 (by decide)]; exact hM.1 p q h1 h2, by rw [k2 1 (by decide), a4 1 (by decide)]; exact hM.2⟩ (by rw [k2 1 (by decide), a4 1 (by decide)]; exact hy) (by omega)
  have m13 : Im 1 3 = nI yr := by rw [m3.2 3 (by decide), k2 1 (by decide), a4 1 (by decide)]; exact hy
  have kf : ∀ a, a < 8 ∨ 13 < a → a ≠ 1 → a ≠ 7 → Im a = Ia a := fun a h1 h2 h3 => by rw [m3.1 a h2 h3, k2 a h1]
  have hf : ∀ a, a ≠ 1 → a ≠ 7 → Im a = Ik a := m3.1
  have hc : ∀ i, i < pop F1 → Ik 15 i = B i := fun i hi => by rw [k2 15 (by decide)]; exact Bv i (by omega)
  refine ⟨va_up Im 1 (va_up (Im 1) 3 (nI (yr + 1))), Ja, fun v6 => ?_, ?_, fun i hi => ?_, ?_, by rw [vu_eq, vu_eq], ?_, fun hl => ?_, fun y hy' => ?_, fun a h1 h2 => ?_, fun i h1 h2 => ?_, a5⟩
  · have e4 : Ia 137 4 = nI bd := by rw [a4 137 (by decide)]; exact h4
    have e5 : Ia 137 5 = nI kp := by rw [a4 137 (by decide)]; exact h5
    cases gd with
    | true =>
      have k1 : callF X d 26 [.ref 8, .ref 14, .int (nI bd), .int (nI kp), .int (nI 1)] (mk Ia Ja) = some (none, mk Ik Ja) := k1
      simp (disch := first | omega | assumption | exact rfl) only [U_133_2, U_133_3, U_133_5, XX, QQ, WW, KK, QX, SHs, RRs, Nat.reduceAdd, Nat.reduceMul, Nat.reduceLeDiff, Nat.reduceEqDiff, List.length_cons, List.length_nil, decide_true, decide_false, Bool.true_and, Bool.and_true, Bool.false_and, Bool.and_false, false_and, and_false, Bool.false_eq_true, Bool.true_eq_false, reduceCtorEq, eq_self, if_true, if_false, true_and, and_true, not_true_eq_false, not_false_eq_true, if_pos, if_neg, z_ite_not, false_or, or_false, true_or, or_true, SWs, swk_0, swk_1, a1, ib, e4, e5, k1, m1, m13]
    | false =>
      have k1 : callF X d 26 [.ref 8, .ref 14, .int (nI bd), .int (nI kp), .int (nI 0)] (mk Ia Ja) = some (none, mk Ik Ja) := k1
      simp (disch := first | omega | assumption | exact rfl) only [U_133_2, U_133_4, U_133_5, XX, QQ, WW, KK, QX, SHs, RRs, Nat.reduceAdd, Nat.reduceMul, Nat.reduceLeDiff, Nat.reduceEqDiff, List.length_cons, List.length_nil, decide_true, decide_false, Bool.true_and, Bool.and_true, Bool.false_and, Bool.and_false, false_and, and_false, Bool.false_eq_true, Bool.true_eq_false, reduceCtorEq, eq_self, if_true, if_false, true_and, and_true, not_true_eq_false, not_false_eq_true, if_pos, if_neg, z_ite_not, false_or, or_false, true_or, or_true, SWs, swk_0, swk_1, a1, ib, e4, e5, k1, m1, m13]
  · exact WG_fr a2 (fun a h1 h2 => by rw [vu_ne (by omega), kf a (by omega) (by omega) (by omega)]) rfl
  · rw [vu_ne (by decide), kf 15 (by decide) (by decide) (by decide)]; exact Bv i hi
  · have cg : ∀ p q, p < 24 → q < 24 → fiP fi (nI yr) (PM F1 (Ik 15) (pop F1)) p q = fiN fi (nI yr) (nr F1 B) p q := fun p q hp hq => fiP_N h24 hp hq hc
    refine ⟨fun p q h1 h2 => ?_, ?_⟩
    · rw [vu_ne (by decide), ← cg p q (by omega) h2]; exact m2.1 p q h1 h2
    · rw [vu_eq, vu_ne (by decide), ← metN_cg cg]; exact m2.2
  · rw [vu_ne (by decide), hf 8 (by decide) (by decide)]
    by_cases z : h < 60
    · rw [if_pos z]; exact (k4 z).1
    · rw [if_neg z, k3 (by omega), a4 8 (by decide)]; exact h0
  · obtain ⟨x1, x2, x3, x4, x5, x6⟩ := k4 hl
    refine ⟨by rw [vu_ne (by decide), hf 9 (by decide) (by decide), x2, vu_eq], by rw [vu_ne (by decide), hf 10 (by decide) (by decide), x3, vu_eq], by rw [vu_ne (by decide), hf 11 (by decide) (by decide), x4, vu_eq], fun b hb => ⟨?_, ?_⟩⟩
    · have hb15 : ∀ i, i < pop F1 → Ia 15 i = B i := fun i hi => Bv i (by omega)
      rw [vu_ne (by decide), hf 12 (by decide) (by decide), x5]
      refine (ky_at hb).trans ?_
      rw [← nr_cg hb15]
      by_cases z : ∃ i, i < pop F1 ∧ Ia 15 i = nI b
      · exact if_pos (cd_iff.mpr z)
      · rw [nr_no (fun i hi e => z ⟨i, hi, e⟩)]
        exact if_neg (by rw [cd_iff]; exact z)
    · rw [vu_ne (by decide), hf 13 (by decide) (by decide), x6]
      refine (ky_at hb).trans ?_
      rw [← lfv_cg hBa hB h24 hb (fun i hi => Bv i (by omega))]
      rfl
  · have old : Im 9 y = Ia 9 y ∧ Im 10 y = Ia 10 y ∧ Im 11 y = Ia 11 y ∧ ∀ b, b < 24 → Im 12 (y * 24 + b) = Ia 12 (y * 24 + b) ∧ Im 13 (y * 24 + b) = Ia 13 (y * 24 + b) := by
      rw [hf 9 (by decide) (by decide), hf 10 (by decide) (by decide), hf 11 (by decide) (by decide), hf 12 (by decide) (by decide), hf 13 (by decide) (by decide)]
      by_cases z : h < 60
      · obtain ⟨x1, x2, x3, x4, x5, x6⟩ := k4 z
        rw [x2, x3, x4, x5, x6, vu_ne (by omega), vu_ne (by omega), vu_ne (by omega)]
        exact ⟨rfl, rfl, rfl, fun b hb => ⟨ky_out hb hy', ky_out hb hy'⟩⟩
      · rw [k3 (by omega)]
        exact ⟨rfl, rfl, rfl, fun b hb => ⟨rfl, rfl⟩⟩
    rw [vu_ne (by decide), vu_ne (by decide), vu_ne (by decide), vu_ne (by decide), vu_ne (by decide)]
    rw [a4 9 (by decide), a4 10 (by decide), a4 11 (by decide), a4 12 (by decide), a4 13 (by decide)] at old
    exact old
  · rw [vu_ne h1]
    rcases h2 with h2 | h2
    · rw [kf a (by omega) h1 (by omega), a4 a (by omega)]
    · rw [kf a (by omega) h1 (by omega), a4 a (by omega)]
  · rw [vu_eq, vu_ne h1, m3.2 i h2, k2 1 (by decide), a4 1 (by decide)]
