/-! ===== copies; image ===== -/
theorem c_copyW {X : Nat × (Nat → Int32)} {d : Nat} {I : Nat → Nat → Int32} {J : Nat → Nat → Int64} {W V : Nat} (hd : 1 ≤ d) (hW : WA (mk I J) W) (hV : WA (mk I J) V) (hVW : V + 3 < W ∨ W + 3 < V) : ∃ I' J', callF X d 95 [.ref W, .ref V] (mk I J) = some (none, mk I' J') ∧ (I' W 1 = I V 1 ∧ (∀ i, i < 24 → I' (W + 1) i = I (V + 1) i) ∧ (∀ i, i < 24 → I' (W + 2) i = I (V + 2) i) ∧ (∀ i, i < 96 → I' (W + 3) i = I (V + 3) i)) ∧ J' W 0 = J V 0 ∧ (∀ k, k < W ∨ W + 3 < k → I' k = I k) ∧ (∀ k, k ≠ W → J' k = J k) := by
  have r := s_copyW (X := X) (d := d) (M := mk I J) hd hW hV hVW
  have h1 : m_I (Wcpy (mk I J) W V) W 1 = I V 1 := by unfold Wcpy; rw [mw_I0, vu_eq]; rfl
  have h2 : ∀ i, i < 24 → m_I (Wcpy (mk I J) W V) (W + 1) i = I (V + 1) i := fun i hi => Wcpy_B hi
  have h3 : ∀ i, i < 24 → m_I (Wcpy (mk I J) W V) (W + 2) i = I (V + 2) i := fun i hi => by unfold Wcpy; rw [mw_I2, va_cpy0 hi]; rfl
  have h4 : ∀ i, i < 96 → m_I (Wcpy (mk I J) W V) (W + 3) i = I (V + 3) i := fun i hi => by unfold Wcpy; rw [mw_I3, va_cpy0 hi]; rfl
  have h5 : m_J (Wcpy (mk I J) W V) W 0 = J V 0 := by unfold Wcpy; rw [mw_J, vu_eq]; rfl
  have n : ∀ k, k < W ∨ W + 3 < k → m_I (Wcpy (mk I J) W V) k = I k := fun k hk => by unfold Wcpy; rw [mw_In hk]; rfl
  have j : ∀ k, k ≠ W → m_J (Wcpy (mk I J) W V) k = J k := fun k hk => by unfold Wcpy; rw [mw_Jn hk]; rfl
  unfold Wcpy at r h1 h2 h3 h4 h5 n j
  rw [MW_mk] at r h1 h2 h3 h4 h5 n j
  exact ⟨_, _, r, ⟨h1, h2, h3, h4⟩, h5, n, j⟩
def RA (R : Nat) : Prop := SH R = (6, 10) ∧ RR R 1 = some (R + 1) ∧ RR R 2 = some (R + 2) ∧ RR R 3 = some (R + 3) ∧ RR R 4 = some (R + 4) ∧ RR R 6 = some (R + 5) ∧ RR R 7 = some (R + 6) ∧ RR R 8 = some (R + 7) ∧ SH (R + 1) = (20, 16) ∧ SH (R + 2) = (20, 16) ∧ SH (R + 3) = (20, 16) ∧ SH (R + 4) = (20, 16) ∧ SH (R + 5) = (20, 400) ∧ SH (R + 6) = (20, 5) ∧ SH (R + 7) = (20, 32)
theorem RA_0 {k : Nat} (hk : k < 3) : RA (38 + 8 * k) := (by unfold RA; decide +kernel : ∀ k, k < 3 → RA (38 + 8 * k)) k hk
theorem RA_61 {k : Nat} (hk : k < 3) : RA (38 + 8 * k + 61) := (by unfold RA; decide +kernel : ∀ k, k < 3 → RA (38 + 8 * k + 61)) k hk
theorem RA_129 : RA 129 := by unfold RA; decide +kernel
theorem R6r {k : Nat} (hk : k < 3) : RR 6 k = some (38 + 8 * k) := (by decide +kernel : ∀ k, k < 3 → RR 6 k = some (38 + 8 * k)) k hk
theorem R67r {k : Nat} (hk : k < 3) : RR 67 k = some (38 + 8 * k + 61) := (by decide +kernel : ∀ k, k < 3 → RR 67 k = some (38 + 8 * k + 61)) k hk
theorem R66r {k : Nat} (hk : k < 6) : RR 66 k = some (14 + 4 * k + 61) := (by decide +kernel : ∀ k, k < 6 → RR 66 k = some (14 + 4 * k + 61)) k hk
theorem va_cpJ {f g : Nat → Int64} {n k : Nat} (h : k < n) : va_cpy f g 0 0 n k = f k := by
  unfold va_cpy; rw [if_pos ⟨by omega, by omega⟩, Nat.zero_add, Nat.sub_zero]
theorem c_copyR {X : Nat × (Nat → Int32)} {d : Nat} {I : Nat → Nat → Int32} {J : Nat → Nat → Int64} {R Q : Nat} (hd : 1 ≤ d) (hR : RA R) (hQ : RA Q) (hRQ : Q + 7 < R ∨ R + 7 < Q) : ∃ I', callF X d 66 [.ref R, .ref Q] (mk I J) = some (none, mk I' J) ∧ I' R 0 = I Q 0 ∧ I' R 5 = I Q 5 ∧ (∀ i, i < 16 → I' (R + 1) i = I (Q + 1) i ∧ I' (R + 2) i = I (Q + 2) i ∧ I' (R + 3) i = I (Q + 3) i ∧ I' (R + 4) i = I (Q + 4) i) ∧ (∀ i, i < 400 → I' (R + 5) i = I (Q + 5) i) ∧ (∀ k, k < R ∨ R + 5 < k → I' k = I k) := by
  obtain ⟨a0, a1, a2, a3, a4, a5, a6, a7, a8, a9, a10, a11, a12, a13, a14⟩ := hR
  obtain ⟨b0, b1, b2, b3, b4, b5, b6, b7, b8, b9, b10, b11, b12, b13, b14⟩ := hQ
  refine ⟨va_up (va_up (va_up (va_up (va_up (va_up I R (va_up (va_up (I R) 0 (I Q 0)) 5 (I Q 5))) (R + 1) (va_cpy (I (Q + 1)) (I (R + 1)) 0 0 16)) (R + 2) (va_cpy (I (Q + 2)) (I (R + 2)) 0 0 16)) (R + 3) (va_cpy (I (Q + 3)) (I (R + 3)) 0 0 16)) (R + 4) (va_cpy (I (Q + 4)) (I (R + 4)) 0 0 16)) (R + 5) (va_cpy (I (Q + 5)) (I (R + 5)) 0 0 400), ?_, ?_, ?_, fun i hi => ⟨?_, ?_, ?_, ?_⟩, fun i hi => ?_, fun k hk => ?_⟩
  · refine callF_at (by omega) (by decide) (Nat.le_of_ble_eq_true rfl) (fun d _ => ?_)
    show Ev X d 66 0 [.ref R, .ref Q] [] ( mk I J) _
    simp (disch := first | omega | assumption | exact rfl) only [U_66_0, XX, QQ, WW, KK, QX, SHs, RRs, Nat.reduceAdd, Nat.reduceMul, Nat.reduceLeDiff, Nat.reduceEqDiff, List.length_cons, List.length_nil, decide_true, decide_false, Bool.true_and, Bool.and_true, Bool.false_and, Bool.and_false, false_and, and_false, Bool.false_eq_true, Bool.true_eq_false, reduceCtorEq, eq_self, if_true, if_false, true_and, and_true, not_true_eq_false, not_false_eq_true, if_pos, if_neg, z_ite_not, false_or, or_false, true_or, or_true, SWs, swk_0, swk_1, a0, a1, a2, a3, a4, a5, a8, a9, a10, a11, a12, b0, b1, b2, b3, b4, b5, b8, b9, b10, b11, b12]
  · rw [vu_ne (by omega), vu_ne (by omega), vu_ne (by omega), vu_ne (by omega), vu_ne (by omega), vu_eq, vu_ne (by omega), vu_eq]
  · rw [vu_ne (by omega), vu_ne (by omega), vu_ne (by omega), vu_ne (by omega), vu_ne (by omega), vu_eq, vu_eq]
  · rw [vu_ne (by omega), vu_ne (by omega), vu_ne (by omega), vu_ne (by omega), vu_eq, va_cpy0 hi]
  · rw [vu_ne (by omega), vu_ne (by omega), vu_ne (by omega), vu_eq, va_cpy0 hi]
  · rw [vu_ne (by omega), vu_ne (by omega), vu_eq, va_cpy0 hi]
  · rw [vu_ne (by omega), vu_eq, va_cpy0 hi]
  · rw [vu_eq, va_cpy0 hi]
  · rw [vu_ne (by omega), vu_ne (by omega), vu_ne (by omega), vu_ne (by omega), vu_ne (by omega), vu_ne (by omega)]
/-- world o' has become what world o is -/
def CPD (I I' : Nat → Nat → Int32) (J J' : Nat → Nat → Int64) (o o' : Nat) : Prop := (∀ i, i < 5 → I' (1 + o') i = I (1 + o) i) ∧ (∀ i, i < 24 → I' (2 + o') i = I (2 + o) i ∧ I' (3 + o') i = I (3 + o) i) ∧ (∀ i, i < 6 → J' (4 + o') i = J (4 + o) i) ∧ (∀ a, a < 6 → (I' (14 + 4 * a + o') 1 = I (14 + 4 * a + o) 1 ∧ (∀ i, i < 24 → I' (14 + 4 * a + o' + 1) i = I (14 + 4 * a + o + 1) i) ∧ (∀ i, i < 24 → I' (14 + 4 * a + o' + 2) i = I (14 + 4 * a + o + 2) i) ∧ (∀ i, i < 96 → I' (14 + 4 * a + o' + 3) i = I (14 + 4 * a + o + 3) i)) ∧ J' (14 + 4 * a + o') 0 = J (14 + 4 * a + o) 0) ∧ (∀ k, k < 3 → I' (38 + 8 * k + o') 0 = I (38 + 8 * k + o) 0 ∧ (∀ i, i < 16 → I' (38 + 8 * k + o' + 1) i = I (38 + 8 * k + o + 1) i ∧ I' (38 + 8 * k + o' + 2) i = I (38 + 8 * k + o + 2) i ∧ I' (38 + 8 * k + o' + 3) i = I (38 + 8 * k + o + 3) i ∧ I' (38 + 8 * k + o' + 4) i = I (38 + 8 * k + o + 4) i) ∧ (∀ i, i < 400 → I' (38 + 8 * k + o' + 5) i = I (38 + 8 * k + o + 5) i)) ∧ (∀ i, i < 576 → I' (7 + o') i = I (7 + o) i) ∧ I' (8 + o') 0 = I (8 + o) 0 ∧ (∀ i, i < 60 → I' (9 + o') i = I (9 + o) i ∧ I' (10 + o') i = I (10 + o) i ∧ I' (11 + o') i = I (11 + o) i) ∧ (∀ i, i < 1440 → I' (12 + o') i = I (12 + o) i ∧ I' (13 + o') i = I (13 + o) i)
theorem WRel_cp {I I' : Nat → Nat → Int32} {J J' : Nat → Nat → Int64} {o o' r r' : Nat} (hA : ∀ a, a < 6 → WA (mk I' J') (14 + 4 * a + o')) (h : CPD I I' J J' o o') (hr : ∀ i, i < 7160 → I' r' i = I r i) (w : WRel I J o r) : WRel I' J' o' r' := by
  obtain ⟨h1, h2, h3, h4, h5, h6, h7, h8, h9⟩ := h
  obtain ⟨w1, w2, w3, w4, w5, w6, w7⟩ := w
  exact ⟨WSc_tr (fun i hi => h1 i (by omega)) (fun i hi => hr i (by omega)) w1, WMk_tr h2 (fun i hi => hr i (by omega)) w2, WSh_tr h3 (fun i hi => hr i (by omega)) w3, WWl_tr hA (fun a ha => (h4 a ha).2) (fun a ha => (h4 a ha).1) (fun i _ _ => hr i (by omega)) w4, WMt_tr (h1 4 (by decide)) h6 (fun i _ _ => hr i (by omega)) w5, WHi_tr h7 h8 h9 (hr 4 (by decide)) (fun i _ _ => hr i (by omega)) w6, WRu_tr (fun k hk => (h5 k hk).1) (fun k hk => (h5 k hk).2.1) (fun k hk => (h5 k hk).2.2) (fun i _ _ => hr i (by omega)) w7⟩
theorem c_cpH1 {X : Nat × (Nat → Int32)} {d : Nat} {I : Nat → Nat → Int32} {J : Nat → Nat → Int64} (hd : 1 ≤ d) : ∃ I', callF X d 25 [.ref 69, .ref 8] (mk I J) = some (none, mk I' J) ∧ I' 69 0 = I 8 0 ∧ (∀ i, i < 60 → I' 70 i = I 9 i ∧ I' 71 i = I 10 i ∧ I' 72 i = I 11 i) ∧ (∀ i, i < 1440 → I' 73 i = I 12 i ∧ I' 74 i = I 13 i) ∧ (∀ k, k < 69 ∨ 74 < k → I' k = I k) := by
  refine ⟨va_up (va_up (va_up (va_up (va_up (va_up I 69 (va_up (I 69) 0 (I 8 0))) 70 (va_cpy (I 9) (I 70) 0 0 60)) 71 (va_cpy (I 10) (I 71) 0 0 60)) 72 (va_cpy (I 11) (I 72) 0 0 60)) 73 (va_cpy (I 12) (I 73) 0 0 1440)) 74 (va_cpy (I 13) (I 74) 0 0 1440), ?_, ?_, fun i hi => ⟨?_, ?_, ?_⟩, fun i hi => ⟨?_, ?_⟩, fun k hk => ?_⟩
  · refine callF_at (by omega) (by decide) (Nat.le_of_ble_eq_true rfl) (fun d _ => ?_)
    show Ev X d 25 0 [.ref 69, .ref 8] [] ( mk I J) _
    simp (disch := first | omega | assumption | exact rfl) only [U_25_0, XX, QQ, WW, KK, QX, SHs, RRs, Nat.reduceAdd, Nat.reduceMul, Nat.reduceLeDiff, Nat.reduceEqDiff, List.length_cons, List.length_nil, decide_true, decide_false, Bool.true_and, Bool.and_true, Bool.false_and, Bool.and_false, false_and, and_false, Bool.false_eq_true, Bool.true_eq_false, reduceCtorEq, eq_self, if_true, if_false, true_and, and_true, not_true_eq_false, not_false_eq_true, if_pos, if_neg, z_ite_not, false_or, or_false, true_or, or_true, SWs, swk_0, swk_1]
  · rw [vu_ne (by omega), vu_ne (by omega), vu_ne (by omega), vu_ne (by omega), vu_ne (by omega), vu_eq, vu_eq]
  · rw [vu_ne (by omega), vu_ne (by omega), vu_ne (by omega), vu_ne (by omega), vu_eq, va_cpy0 hi]
  · rw [vu_ne (by omega), vu_ne (by omega), vu_ne (by omega), vu_eq, va_cpy0 hi]
  · rw [vu_ne (by omega), vu_ne (by omega), vu_eq, va_cpy0 hi]
  · rw [vu_ne (by omega), vu_eq, va_cpy0 hi]
  · rw [vu_eq, va_cpy0 hi]
  · rw [vu_ne (by omega), vu_ne (by omega), vu_ne (by omega), vu_ne (by omega), vu_ne (by omega), vu_ne (by omega)]
theorem c_copyWorld1 {X : Nat × (Nat → Int32)} {d : Nat} {I : Nat → Nat → Int32} {J : Nat → Nat → Int64} (hd : 2 ≤ d) : ∃ I' J', callF X d 106 [.ref 62, .ref 1] (mk I J) = some (none, mk I' J') ∧ CPD I I' J J' 0 61 ∧ (∀ k, k < 62 ∨ 122 < k → I' k = I k) ∧ (∀ k, k < 62 ∨ 122 < k → J' k = J k) := by
  obtain ⟨d, rfl⟩ : ∃ d', d = d' + 1 := ⟨d - 1, by omega⟩
  obtain ⟨I0, hI0⟩ : ∃ I0, I0 = va_up (va_up (va_up I 62 (va_up (va_up (va_up (va_up (va_up (I 62) 0 (I 1 0)) 1 (I 1 1)) 2 (I 1 2)) 3 (I 1 3)) 4 (I 1 4))) 63 (va_cpy (I 2) (I 63) 0 0 24)) 64 (va_cpy (I 3) (I 64) 0 0 24) := ⟨_, rfl⟩
  obtain ⟨J0, hJ0⟩ : ∃ J0, J0 = va_up J 65 (va_cpy (J 4) (J 65) 0 0 6) := ⟨_, rfl⟩
  have f0 : ∀ k, k < 62 ∨ 64 < k → I0 k = I k := fun k hk => by rw [hI0, vu_ne (by omega), vu_ne (by omega), vu_ne (by omega)]
  have j0 : ∀ k, k ≠ 65 → J0 k = J k := fun k hk => by rw [hJ0, vu_ne hk]
  -- walls
  have L1 : ∃ I2 J2, ((∀ k, k < 75 ∨ 98 < k → I2 k = I0 k ∧ J2 k = J0 k) ∧ ∀ a, a < 6 → (I2 (14 + 4 * a + 61) 1 = I (14 + 4 * a + 0) 1 ∧ (∀ i, i < 24 → I2 (14 + 4 * a + 61 + 1) i = I (14 + 4 * a + 0 + 1) i) ∧ (∀ i, i < 24 → I2 (14 + 4 * a + 61 + 2) i = I (14 + 4 * a + 0 + 2) i) ∧ (∀ i, i < 96 → I2 (14 + 4 * a + 61 + 3) i = I (14 + 4 * a + 0 + 3) i)) ∧ J2 (14 + 4 * a + 61) 0 = J (14 + 4 * a + 0) 0) ∧ ∀ r, Ev X d 106 3 [.ref 62, .ref 1, .int (nI 6)] [] (mk I2 J2) r → Ev X d 106 1 [.ref 62, .ref 1, .int (nI 0)] [] (mk I0 J0) r := by
    refine lpI (n := 6) (P := fun n => ∀ I1 J1, ((∀ k, k < 75 ∨ 98 < k → I1 k = I0 k ∧ J1 k = J0 k) ∧ ∀ a, a < n → (I1 (14 + 4 * a + 61) 1 = I (14 + 4 * a + 0) 1 ∧ (∀ i, i < 24 → I1 (14 + 4 * a + 61 + 1) i = I (14 + 4 * a + 0 + 1) i) ∧ (∀ i, i < 24 → I1 (14 + 4 * a + 61 + 2) i = I (14 + 4 * a + 0 + 2) i) ∧ (∀ i, i < 96 → I1 (14 + 4 * a + 61 + 3) i = I (14 + 4 * a + 0 + 3) i)) ∧ J1 (14 + 4 * a + 61) 0 = J (14 + 4 * a + 0) 0) → ∃ I2 J2, ((∀ k, k < 75 ∨ 98 < k → I2 k = I0 k ∧ J2 k = J0 k) ∧ ∀ a, a < 6 → (I2 (14 + 4 * a + 61) 1 = I (14 + 4 * a + 0) 1 ∧ (∀ i, i < 24 → I2 (14 + 4 * a + 61 + 1) i = I (14 + 4 * a + 0 + 1) i) ∧ (∀ i, i < 24 → I2 (14 + 4 * a + 61 + 2) i = I (14 + 4 * a + 0 + 2) i) ∧ (∀ i, i < 96 → I2 (14 + 4 * a + 61 + 3) i = I (14 + 4 * a + 0 + 3) i)) ∧ J2 (14 + 4 * a + 61) 0 = J (14 + 4 * a + 0) 0) ∧ ∀ r, Ev X d 106 3 [.ref 62, .ref 1, .int (nI 6)] [] (mk I2 J2) r → Ev X d 106 1 [.ref 62, .ref 1, .int (nI n)] [] (mk I1 J1) r) ?_ ?_ (fun L => L I0 J0 ⟨fun k _ => ⟨rfl, rfl⟩, fun a ha => by omega⟩)
    · intro I1 J1 q
      refine ⟨I1, J1, q, fun r hr => ?_⟩
      rw [U_106_1]
      simp (disch := omega) only [XX, QQ, Nat.reduceLeDiff, if_true]
      exact hr
    · intro n hn ih I1 J1 q
      obtain ⟨q1, q2⟩ := q
      obtain ⟨I2, J2, c1, ⟨c2, c3, c4, c5⟩, c6, c7, c8⟩ := c_copyW (X := X) (d := d) (I := I1) (J := J1) (by omega) (WA_61 hn) (WA_0 hn) (by omega)
      have src : ∀ e, e ≤ 3 → I1 (14 + 4 * n + 0 + e) = I (14 + 4 * n + 0 + e) := fun e he => by rw [(q1 _ (by omega)).1, f0 _ (by omega)]
      have src0 : I1 (14 + 4 * n + 0) = I (14 + 4 * n + 0) := src 0 (by decide)
      rw [src0] at c2
      rw [src 1 (by decide)] at c3
      rw [src 2 (by decide)] at c4
      rw [src 3 (by decide)] at c5
      rw [(q1 _ (by omega)).2, j0 _ (by omega)] at c6
      obtain ⟨I3, J3, e1, e2⟩ := ih I2 J2 ⟨fun k hk => ⟨by rw [c7 _ (by omega)]; exact (q1 k hk).1, by rw [c8 _ (by omega)]; exact (q1 k hk).2⟩, fun a ha => by
        by_cases z : a = n
        · subst z
          exact ⟨⟨c2, c3, c4, c5⟩, c6⟩
        · obtain ⟨⟨y1, y2, y3, y4⟩, y5⟩ := q2 a (by omega)
          rw [c7 (14 + 4 * a + 61) (by omega), c7 (14 + 4 * a + 61 + 1) (by omega), c7 (14 + 4 * a + 61 + 2) (by omega), c7 (14 + 4 * a + 61 + 3) (by omega), c8 (14 + 4 * a + 61) (by omega)]
          exact ⟨⟨y1, y2, y3, y4⟩, y5⟩⟩
      refine ⟨I3, J3, e1, fun r hr => ?_⟩
      have q := e2 r hr
      have s9 : SH (14 + 4 * n + 61) = (9, 5) := (WA_61 (I := I) (J := J) hn).1
      have c1' : callF X d 95 [.ref (14 + 4 * n + 61), .ref (14 + 4 * n)] (mk I1 J1) = some (none, mk I2 J2) := c1
      rw [U_106_1]
      simp (disch := first | omega | assumption | exact rfl) only [U_106_2, XX, QQ, WW, KK, QX, SHs, RRs, Nat.reduceAdd, Nat.reduceMul, Nat.reduceLeDiff, Nat.reduceEqDiff, List.length_cons, List.length_nil, decide_true, decide_false, Bool.true_and, Bool.and_true, Bool.false_and, Bool.and_false, false_and, and_false, Bool.false_eq_true, Bool.true_eq_false, reduceCtorEq, eq_self, if_true, if_false, true_and, and_true, not_true_eq_false, not_false_eq_true, if_pos, if_neg, z_ite_not, false_or, or_false, true_or, or_true, SWs, swk_0, swk_1, R66r, R5, s9, c1']
      exact q
  obtain ⟨I2, J2, ⟨g1, g2⟩, L1⟩ := L1
  -- rules
  have L2 : ∃ I4, ((∀ k, k < 99 ∨ 122 < k → I4 k = I2 k) ∧ ∀ k, k < 3 → I4 (38 + 8 * k + 61) 0 = I (38 + 8 * k + 0) 0 ∧ (∀ i, i < 16 → I4 (38 + 8 * k + 61 + 1) i = I (38 + 8 * k + 0 + 1) i ∧ I4 (38 + 8 * k + 61 + 2) i = I (38 + 8 * k + 0 + 2) i ∧ I4 (38 + 8 * k + 61 + 3) i = I (38 + 8 * k + 0 + 3) i ∧ I4 (38 + 8 * k + 61 + 4) i = I (38 + 8 * k + 0 + 4) i) ∧ (∀ i, i < 400 → I4 (38 + 8 * k + 61 + 5) i = I (38 + 8 * k + 0 + 5) i)) ∧ ∀ r, Ev X d 106 6 [.ref 62, .ref 1, .int (nI 3)] [] (mk I4 J2) r → Ev X d 106 4 [.ref 62, .ref 1, .int (nI 0)] [] (mk I2 J2) r := by
    refine lpI (n := 3) (P := fun n => ∀ I3, ((∀ k, k < 99 ∨ 122 < k → I3 k = I2 k) ∧ ∀ k, k < n → I3 (38 + 8 * k + 61) 0 = I (38 + 8 * k + 0) 0 ∧ (∀ i, i < 16 → I3 (38 + 8 * k + 61 + 1) i = I (38 + 8 * k + 0 + 1) i ∧ I3 (38 + 8 * k + 61 + 2) i = I (38 + 8 * k + 0 + 2) i ∧ I3 (38 + 8 * k + 61 + 3) i = I (38 + 8 * k + 0 + 3) i ∧ I3 (38 + 8 * k + 61 + 4) i = I (38 + 8 * k + 0 + 4) i) ∧ (∀ i, i < 400 → I3 (38 + 8 * k + 61 + 5) i = I (38 + 8 * k + 0 + 5) i)) → ∃ I4, ((∀ k, k < 99 ∨ 122 < k → I4 k = I2 k) ∧ ∀ k, k < 3 → I4 (38 + 8 * k + 61) 0 = I (38 + 8 * k + 0) 0 ∧ (∀ i, i < 16 → I4 (38 + 8 * k + 61 + 1) i = I (38 + 8 * k + 0 + 1) i ∧ I4 (38 + 8 * k + 61 + 2) i = I (38 + 8 * k + 0 + 2) i ∧ I4 (38 + 8 * k + 61 + 3) i = I (38 + 8 * k + 0 + 3) i ∧ I4 (38 + 8 * k + 61 + 4) i = I (38 + 8 * k + 0 + 4) i) ∧ (∀ i, i < 400 → I4 (38 + 8 * k + 61 + 5) i = I (38 + 8 * k + 0 + 5) i)) ∧ ∀ r, Ev X d 106 6 [.ref 62, .ref 1, .int (nI 3)] [] (mk I4 J2) r → Ev X d 106 4 [.ref 62, .ref 1, .int (nI n)] [] (mk I3 J2) r) ?_ ?_ (fun L => L I2 ⟨fun k _ => rfl, fun a ha => by omega⟩)
    · intro I3 q
      refine ⟨I3, q, fun r hr => ?_⟩
      rw [U_106_4]
      simp (disch := omega) only [XX, QQ, Nat.reduceLeDiff, if_true]
      exact hr
    · intro n hn ih I3 q
      obtain ⟨q1, q2⟩ := q
      obtain ⟨I5, c1, c2, c2b, c3, c4, c5⟩ := c_copyR (X := X) (d := d) (I := I3) (J := J2) (by omega) (RA_61 hn) (RA_0 hn) (by omega)
      have src : ∀ e, e ≤ 5 → I3 (38 + 8 * n + e) = I (38 + 8 * n + e) := fun e he => by rw [q1 _ (by omega), (g1 _ (by omega)).1, f0 _ (by omega)]
      have src0 : I3 (38 + 8 * n) = I (38 + 8 * n) := src 0 (by decide)
      rw [src0] at c2
      rw [src 1 (by decide), src 2 (by decide), src 3 (by decide), src 4 (by decide)] at c3
      rw [src 5 (by decide)] at c4
      obtain ⟨I6, e1, e2⟩ := ih I5 ⟨fun k hk => by rw [c5 _ (by omega)]; exact q1 k hk, fun k hk => by
        by_cases z : k = n
        · subst z
          exact ⟨c2, c3, c4⟩
        · obtain ⟨y1, y2, y3⟩ := q2 k (by omega)
          rw [c5 (38 + 8 * k + 61) (by omega), c5 (38 + 8 * k + 61 + 1) (by omega), c5 (38 + 8 * k + 61 + 2) (by omega), c5 (38 + 8 * k + 61 + 3) (by omega), c5 (38 + 8 * k + 61 + 4) (by omega), c5 (38 + 8 * k + 61 + 5) (by omega)]
          exact ⟨y1, y2, y3⟩⟩
      refine ⟨I6, e1, fun r hr => ?_⟩
      have q := e2 r hr
      have s9 : SH (38 + 8 * n + 61) = (6, 10) := (RA_61 hn).1
      rw [U_106_4]
      simp (disch := first | omega | assumption | exact rfl) only [U_106_5, XX, QQ, WW, KK, QX, SHs, RRs, Nat.reduceAdd, Nat.reduceMul, Nat.reduceLeDiff, Nat.reduceEqDiff, List.length_cons, List.length_nil, decide_true, decide_false, Bool.true_and, Bool.and_true, Bool.false_and, Bool.and_false, false_and, and_false, Bool.false_eq_true, Bool.true_eq_false, reduceCtorEq, eq_self, if_true, if_false, true_and, and_true, not_true_eq_false, not_false_eq_true, if_pos, if_neg, z_ite_not, false_or, or_false, true_or, or_true, SWs, swk_0, swk_1, R67r, R6r, s9, c1]
      exact q
  obtain ⟨I4, ⟨g3, g4⟩, L2⟩ := L2
  obtain ⟨I5, hI5⟩ : ∃ I5, I5 = va_up I4 68 (va_cpy (I4 7) (I4 68) 0 0 576) := ⟨_, rfl⟩
  obtain ⟨I6, c1, c2, c3, c4, c5⟩ := c_cpH1 (X := X) (d := d) (I := I5) (J := J2) (by omega)
  have fin : ∀ k, k < 75 ∨ 122 < k → I4 k = I0 k := fun k hk => by rw [g3 k (by omega), (g1 k (by omega)).1]
  have f5 : ∀ k, k ≠ 68 → I5 k = I4 k := fun k hk => by rw [hI5, vu_ne hk]
  refine ⟨I6, J2, ?_, ⟨fun i hi => ?_, fun i hi => ⟨?_, ?_⟩, fun i hi => ?_, fun a ha => ?_, fun k hk => ?_, fun i hi => ?_, ?_, fun i hi => ?_, fun i hi => ?_⟩, fun k hk => ?_, fun k hk => ?_⟩
  · refine callF_at (by omega) (by decide) (Nat.le_of_ble_eq_true rfl) (fun d' hd' => ?_)
    obtain rfl : d = d' := by omega
    show Ev X d 106 0 [.ref 62, .ref 1, .retAddr 0] [] (mk I J) _
    simp (disch := first | omega | assumption | exact rfl) only [U_106_0, XX, QQ, WW, KK, QX, SHs, RRs, Nat.reduceAdd, Nat.reduceMul, Nat.reduceLeDiff, Nat.reduceEqDiff, List.length_cons, List.length_nil, decide_true, decide_false, Bool.true_and, Bool.and_true, Bool.false_and, Bool.and_false, false_and, and_false, Bool.false_eq_true, Bool.true_eq_false, reduceCtorEq, eq_self, if_true, if_false, true_and, and_true, not_true_eq_false, not_false_eq_true, if_pos, if_neg, z_ite_not, false_or, or_false, true_or, or_true, SWs, swk_0, swk_1]
    rw [← hI0, ← hJ0]
    apply L1
    simp (disch := first | omega | assumption | exact rfl) only [U_106_3, XX, QQ, WW, KK, QX, SHs, RRs, Nat.reduceAdd, Nat.reduceMul, Nat.reduceLeDiff, Nat.reduceEqDiff, List.length_cons, List.length_nil, decide_true, decide_false, Bool.true_and, Bool.and_true, Bool.false_and, Bool.and_false, false_and, and_false, Bool.false_eq_true, Bool.true_eq_false, reduceCtorEq, eq_self, if_true, if_false, true_and, and_true, not_true_eq_false, not_false_eq_true, if_pos, if_neg, z_ite_not, false_or, or_false, true_or, or_true, SWs, swk_0, swk_1]
    apply L2
    rw [hI5] at c1
    simp (disch := first | omega | assumption | exact rfl) only [U_106_6, XX, QQ, WW, KK, QX, SHs, RRs, Nat.reduceAdd, Nat.reduceMul, Nat.reduceLeDiff, Nat.reduceEqDiff, List.length_cons, List.length_nil, decide_true, decide_false, Bool.true_and, Bool.and_true, Bool.false_and, Bool.and_false, false_and, and_false, Bool.false_eq_true, Bool.true_eq_false, reduceCtorEq, eq_self, if_true, if_false, true_and, and_true, not_true_eq_false, not_false_eq_true, if_pos, if_neg, z_ite_not, false_or, or_false, true_or, or_true, SWs, swk_0, swk_1, c1]
  · rw [c5 _ (by omega), f5 _ (by omega), fin _ (by omega), hI0, vu_ne (by omega), vu_ne (by omega), vu_eq]
    obtain rfl | rfl | rfl | rfl | rfl : i = 0 ∨ i = 1 ∨ i = 2 ∨ i = 3 ∨ i = 4 := by omega
    · rw [vu_ne (by decide), vu_ne (by decide), vu_ne (by decide), vu_ne (by decide), vu_eq]
    · rw [vu_ne (by decide), vu_ne (by decide), vu_ne (by decide), vu_eq]
    · rw [vu_ne (by decide), vu_ne (by decide), vu_eq]
    · rw [vu_ne (by decide), vu_eq]
    · rw [vu_eq]
  · rw [c5 _ (by omega), f5 _ (by omega), fin _ (by omega), hI0, vu_ne (by omega), vu_eq, va_cpy0 hi]
  · rw [c5 _ (by omega), f5 _ (by omega), fin _ (by omega), hI0, vu_eq, va_cpy0 hi]
  · rw [(g1 _ (by omega)).2, hJ0, vu_eq, va_cpJ hi]
  · have e : ∀ x, x ≤ 3 → I6 (14 + 4 * a + 61 + x) = I2 (14 + 4 * a + 61 + x) := fun x hx => by rw [c5 _ (by omega), f5 _ (by omega), g3 _ (by omega)]
    have e0 : I6 (14 + 4 * a + 61) = I2 (14 + 4 * a + 61) := e 0 (by decide)
    rw [e0, e 1 (by decide), e 2 (by decide), e 3 (by decide)]
    exact g2 a ha
  · have e : ∀ x, x ≤ 5 → I6 (38 + 8 * k + 61 + x) = I4 (38 + 8 * k + 61 + x) := fun x hx => by rw [c5 _ (by omega), f5 _ (by omega)]
    have e0 : I6 (38 + 8 * k + 61) = I4 (38 + 8 * k + 61) := e 0 (by decide)
    rw [e0, e 1 (by decide), e 2 (by decide), e 3 (by decide), e 4 (by decide), e 5 (by decide)]
    exact g4 k hk
  · rw [c5 _ (by omega), hI5, vu_eq, va_cpy0 hi, fin _ (by omega), f0 _ (by omega)]
  · show I6 69 0 = I 8 0
    rw [c2, f5 _ (by omega), fin _ (by omega), f0 _ (by omega)]
  · show I6 70 i = I 9 i ∧ I6 71 i = I 10 i ∧ I6 72 i = I 11 i
    have := c3 i hi
    rw [f5 9 (by omega), fin 9 (by omega), f0 9 (by omega), f5 10 (by omega), fin 10 (by omega), f0 10 (by omega), f5 11 (by omega), fin 11 (by omega), f0 11 (by omega)] at this
    exact this
  · show I6 73 i = I 12 i ∧ I6 74 i = I 13 i
    have := c4 i hi
    rw [f5 12 (by omega), fin 12 (by omega), f0 12 (by omega), f5 13 (by omega), fin 13 (by omega), f0 13 (by omega)] at this
    exact this
  · rw [c5 _ (by omega), f5 _ (by omega), fin _ (by omega), f0 _ (by omega)]
  · rw [(g1 _ (by omega)).2, j0 _ (by omega)]
theorem c_cpH2 {X : Nat × (Nat → Int32)} {d : Nat} {I : Nat → Nat → Int32} {J : Nat → Nat → Int64} (hd : 1 ≤ d) : ∃ I', callF X d 25 [.ref 8, .ref 69] (mk I J) = some (none, mk I' J) ∧ I' 8 0 = I 69 0 ∧ (∀ i, i < 60 → I' 9 i = I 70 i ∧ I' 10 i = I 71 i ∧ I' 11 i = I 72 i) ∧ (∀ i, i < 1440 → I' 12 i = I 73 i ∧ I' 13 i = I 74 i) ∧ (∀ k, k < 8 ∨ 13 < k → I' k = I k) := by
  refine ⟨va_up (va_up (va_up (va_up (va_up (va_up I 8 (va_up (I 8) 0 (I 69 0))) 9 (va_cpy (I 70) (I 9) 0 0 60)) 10 (va_cpy (I 71) (I 10) 0 0 60)) 11 (va_cpy (I 72) (I 11) 0 0 60)) 12 (va_cpy (I 73) (I 12) 0 0 1440)) 13 (va_cpy (I 74) (I 13) 0 0 1440), ?_, ?_, fun i hi => ⟨?_, ?_, ?_⟩, fun i hi => ⟨?_, ?_⟩, fun k hk => ?_⟩
  · refine callF_at (by omega) (by decide) (Nat.le_of_ble_eq_true rfl) (fun d _ => ?_)
    show Ev X d 25 0 [.ref 8, .ref 69] [] ( mk I J) _
    simp (disch := first | omega | assumption | exact rfl) only [U_25_0, XX, QQ, WW, KK, QX, SHs, RRs, Nat.reduceAdd, Nat.reduceMul, Nat.reduceLeDiff, Nat.reduceEqDiff, List.length_cons, List.length_nil, decide_true, decide_false, Bool.true_and, Bool.and_true, Bool.false_and, Bool.and_false, false_and, and_false, Bool.false_eq_true, Bool.true_eq_false, reduceCtorEq, eq_self, if_true, if_false, true_and, and_true, not_true_eq_false, not_false_eq_true, if_pos, if_neg, z_ite_not, false_or, or_false, true_or, or_true, SWs, swk_0, swk_1]
  · rw [vu_ne (by omega), vu_ne (by omega), vu_ne (by omega), vu_ne (by omega), vu_ne (by omega), vu_eq, vu_eq]
  · rw [vu_ne (by omega), vu_ne (by omega), vu_ne (by omega), vu_ne (by omega), vu_eq, va_cpy0 hi]
  · rw [vu_ne (by omega), vu_ne (by omega), vu_ne (by omega), vu_eq, va_cpy0 hi]
  · rw [vu_ne (by omega), vu_ne (by omega), vu_eq, va_cpy0 hi]
  · rw [vu_ne (by omega), vu_eq, va_cpy0 hi]
  · rw [vu_eq, va_cpy0 hi]
  · rw [vu_ne (by omega), vu_ne (by omega), vu_ne (by omega), vu_ne (by omega), vu_ne (by omega), vu_ne (by omega)]
theorem c_copyWorld2 {X : Nat × (Nat → Int32)} {d : Nat} {I : Nat → Nat → Int32} {J : Nat → Nat → Int64} (hd : 2 ≤ d) : ∃ I' J', callF X d 106 [.ref 1, .ref 62] (mk I J) = some (none, mk I' J') ∧ CPD I I' J J' 61 0 ∧ (∀ k, k < 1 ∨ 61 < k → I' k = I k) ∧ (∀ k, k < 1 ∨ 61 < k → J' k = J k) := by
  obtain ⟨d, rfl⟩ : ∃ d', d = d' + 1 := ⟨d - 1, by omega⟩
  obtain ⟨I0, hI0⟩ : ∃ I0, I0 = va_up (va_up (va_up I 1 (va_up (va_up (va_up (va_up (va_up (I 1) 0 (I 62 0)) 1 (I 62 1)) 2 (I 62 2)) 3 (I 62 3)) 4 (I 62 4))) 2 (va_cpy (I 63) (I 2) 0 0 24)) 3 (va_cpy (I 64) (I 3) 0 0 24) := ⟨_, rfl⟩
  obtain ⟨J0, hJ0⟩ : ∃ J0, J0 = va_up J 4 (va_cpy (J 65) (J 4) 0 0 6) := ⟨_, rfl⟩
  have f0 : ∀ k, k < 1 ∨ 3 < k → I0 k = I k := fun k hk => by rw [hI0, vu_ne (by omega), vu_ne (by omega), vu_ne (by omega)]
  have j0 : ∀ k, k ≠ 4 → J0 k = J k := fun k hk => by rw [hJ0, vu_ne hk]
  -- walls
  have L1 : ∃ I2 J2, ((∀ k, k < 14 ∨ 37 < k → I2 k = I0 k ∧ J2 k = J0 k) ∧ ∀ a, a < 6 → (I2 (14 + 4 * a + 0) 1 = I (14 + 4 * a + 61) 1 ∧ (∀ i, i < 24 → I2 (14 + 4 * a + 0 + 1) i = I (14 + 4 * a + 61 + 1) i) ∧ (∀ i, i < 24 → I2 (14 + 4 * a + 0 + 2) i = I (14 + 4 * a + 61 + 2) i) ∧ (∀ i, i < 96 → I2 (14 + 4 * a + 0 + 3) i = I (14 + 4 * a + 61 + 3) i)) ∧ J2 (14 + 4 * a + 0) 0 = J (14 + 4 * a + 61) 0) ∧ ∀ r, Ev X d 106 3 [.ref 1, .ref 62, .int (nI 6)] [] (mk I2 J2) r → Ev X d 106 1 [.ref 1, .ref 62, .int (nI 0)] [] (mk I0 J0) r := by
    refine lpI (n := 6) (P := fun n => ∀ I1 J1, ((∀ k, k < 14 ∨ 37 < k → I1 k = I0 k ∧ J1 k = J0 k) ∧ ∀ a, a < n → (I1 (14 + 4 * a + 0) 1 = I (14 + 4 * a + 61) 1 ∧ (∀ i, i < 24 → I1 (14 + 4 * a + 0 + 1) i = I (14 + 4 * a + 61 + 1) i) ∧ (∀ i, i < 24 → I1 (14 + 4 * a + 0 + 2) i = I (14 + 4 * a + 61 + 2) i) ∧ (∀ i, i < 96 → I1 (14 + 4 * a + 0 + 3) i = I (14 + 4 * a + 61 + 3) i)) ∧ J1 (14 + 4 * a + 0) 0 = J (14 + 4 * a + 61) 0) → ∃ I2 J2, ((∀ k, k < 14 ∨ 37 < k → I2 k = I0 k ∧ J2 k = J0 k) ∧ ∀ a, a < 6 → (I2 (14 + 4 * a + 0) 1 = I (14 + 4 * a + 61) 1 ∧ (∀ i, i < 24 → I2 (14 + 4 * a + 0 + 1) i = I (14 + 4 * a + 61 + 1) i) ∧ (∀ i, i < 24 → I2 (14 + 4 * a + 0 + 2) i = I (14 + 4 * a + 61 + 2) i) ∧ (∀ i, i < 96 → I2 (14 + 4 * a + 0 + 3) i = I (14 + 4 * a + 61 + 3) i)) ∧ J2 (14 + 4 * a + 0) 0 = J (14 + 4 * a + 61) 0) ∧ ∀ r, Ev X d 106 3 [.ref 1, .ref 62, .int (nI 6)] [] (mk I2 J2) r → Ev X d 106 1 [.ref 1, .ref 62, .int (nI n)] [] (mk I1 J1) r) ?_ ?_ (fun L => L I0 J0 ⟨fun k _ => ⟨rfl, rfl⟩, fun a ha => by omega⟩)
    · intro I1 J1 q
      refine ⟨I1, J1, q, fun r hr => ?_⟩
      rw [U_106_1]
      simp (disch := omega) only [XX, QQ, Nat.reduceLeDiff, if_true]
      exact hr
    · intro n hn ih I1 J1 q
      obtain ⟨q1, q2⟩ := q
      obtain ⟨I2, J2, c1, ⟨c2, c3, c4, c5⟩, c6, c7, c8⟩ := c_copyW (X := X) (d := d) (I := I1) (J := J1) (by omega) (WA_0 hn) (WA_61 hn) (by omega)
      have src : ∀ e, e ≤ 3 → I1 (14 + 4 * n + 61 + e) = I (14 + 4 * n + 61 + e) := fun e he => by rw [(q1 _ (by omega)).1, f0 _ (by omega)]
      have src0 : I1 (14 + 4 * n + 61) = I (14 + 4 * n + 61) := src 0 (by decide)
      rw [src0] at c2
      rw [src 1 (by decide)] at c3
      rw [src 2 (by decide)] at c4
      rw [src 3 (by decide)] at c5
      rw [(q1 _ (by omega)).2, j0 _ (by omega)] at c6
      obtain ⟨I3, J3, e1, e2⟩ := ih I2 J2 ⟨fun k hk => ⟨by rw [c7 _ (by omega)]; exact (q1 k hk).1, by rw [c8 _ (by omega)]; exact (q1 k hk).2⟩, fun a ha => by
        by_cases z : a = n
        · subst z
          exact ⟨⟨c2, c3, c4, c5⟩, c6⟩
        · obtain ⟨⟨y1, y2, y3, y4⟩, y5⟩ := q2 a (by omega)
          rw [c7 (14 + 4 * a + 0) (by omega), c7 (14 + 4 * a + 0 + 1) (by omega), c7 (14 + 4 * a + 0 + 2) (by omega), c7 (14 + 4 * a + 0 + 3) (by omega), c8 (14 + 4 * a + 0) (by omega)]
          exact ⟨⟨y1, y2, y3, y4⟩, y5⟩⟩
      refine ⟨I3, J3, e1, fun r hr => ?_⟩
      have q := e2 r hr
      have s9 : SH (14 + 4 * n) = (9, 5) := (WA_0 (I := I) (J := J) hn).1
      have c1' : callF X d 95 [.ref (14 + 4 * n), .ref (14 + 4 * n + 61)] (mk I1 J1) = some (none, mk I2 J2) := c1
      rw [U_106_1]
      simp (disch := first | omega | assumption | exact rfl) only [U_106_2, XX, QQ, WW, KK, QX, SHs, RRs, Nat.reduceAdd, Nat.reduceMul, Nat.reduceLeDiff, Nat.reduceEqDiff, List.length_cons, List.length_nil, decide_true, decide_false, Bool.true_and, Bool.and_true, Bool.false_and, Bool.and_false, false_and, and_false, Bool.false_eq_true, Bool.true_eq_false, reduceCtorEq, eq_self, if_true, if_false, true_and, and_true, not_true_eq_false, not_false_eq_true, if_pos, if_neg, z_ite_not, false_or, or_false, true_or, or_true, SWs, swk_0, swk_1, R5, R66r, s9, c1']
      exact q
  obtain ⟨I2, J2, ⟨g1, g2⟩, L1⟩ := L1
  -- rules
  have L2 : ∃ I4, ((∀ k, k < 38 ∨ 61 < k → I4 k = I2 k) ∧ ∀ k, k < 3 → I4 (38 + 8 * k + 0) 0 = I (38 + 8 * k + 61) 0 ∧ (∀ i, i < 16 → I4 (38 + 8 * k + 0 + 1) i = I (38 + 8 * k + 61 + 1) i ∧ I4 (38 + 8 * k + 0 + 2) i = I (38 + 8 * k + 61 + 2) i ∧ I4 (38 + 8 * k + 0 + 3) i = I (38 + 8 * k + 61 + 3) i ∧ I4 (38 + 8 * k + 0 + 4) i = I (38 + 8 * k + 61 + 4) i) ∧ (∀ i, i < 400 → I4 (38 + 8 * k + 0 + 5) i = I (38 + 8 * k + 61 + 5) i)) ∧ ∀ r, Ev X d 106 6 [.ref 1, .ref 62, .int (nI 3)] [] (mk I4 J2) r → Ev X d 106 4 [.ref 1, .ref 62, .int (nI 0)] [] (mk I2 J2) r := by
    refine lpI (n := 3) (P := fun n => ∀ I3, ((∀ k, k < 38 ∨ 61 < k → I3 k = I2 k) ∧ ∀ k, k < n → I3 (38 + 8 * k + 0) 0 = I (38 + 8 * k + 61) 0 ∧ (∀ i, i < 16 → I3 (38 + 8 * k + 0 + 1) i = I (38 + 8 * k + 61 + 1) i ∧ I3 (38 + 8 * k + 0 + 2) i = I (38 + 8 * k + 61 + 2) i ∧ I3 (38 + 8 * k + 0 + 3) i = I (38 + 8 * k + 61 + 3) i ∧ I3 (38 + 8 * k + 0 + 4) i = I (38 + 8 * k + 61 + 4) i) ∧ (∀ i, i < 400 → I3 (38 + 8 * k + 0 + 5) i = I (38 + 8 * k + 61 + 5) i)) → ∃ I4, ((∀ k, k < 38 ∨ 61 < k → I4 k = I2 k) ∧ ∀ k, k < 3 → I4 (38 + 8 * k + 0) 0 = I (38 + 8 * k + 61) 0 ∧ (∀ i, i < 16 → I4 (38 + 8 * k + 0 + 1) i = I (38 + 8 * k + 61 + 1) i ∧ I4 (38 + 8 * k + 0 + 2) i = I (38 + 8 * k + 61 + 2) i ∧ I4 (38 + 8 * k + 0 + 3) i = I (38 + 8 * k + 61 + 3) i ∧ I4 (38 + 8 * k + 0 + 4) i = I (38 + 8 * k + 61 + 4) i) ∧ (∀ i, i < 400 → I4 (38 + 8 * k + 0 + 5) i = I (38 + 8 * k + 61 + 5) i)) ∧ ∀ r, Ev X d 106 6 [.ref 1, .ref 62, .int (nI 3)] [] (mk I4 J2) r → Ev X d 106 4 [.ref 1, .ref 62, .int (nI n)] [] (mk I3 J2) r) ?_ ?_ (fun L => L I2 ⟨fun k _ => rfl, fun a ha => by omega⟩)
    · intro I3 q
      refine ⟨I3, q, fun r hr => ?_⟩
      rw [U_106_4]
      simp (disch := omega) only [XX, QQ, Nat.reduceLeDiff, if_true]
      exact hr
    · intro n hn ih I3 q
      obtain ⟨q1, q2⟩ := q
      obtain ⟨I5, c1, c2, c2b, c3, c4, c5⟩ := c_copyR (X := X) (d := d) (I := I3) (J := J2) (by omega) (RA_0 hn) (RA_61 hn) (by omega)
      have src : ∀ e, e ≤ 5 → I3 (38 + 8 * n + 61 + e) = I (38 + 8 * n + 61 + e) := fun e he => by rw [q1 _ (by omega), (g1 _ (by omega)).1, f0 _ (by omega)]
      have src0 : I3 (38 + 8 * n + 61) = I (38 + 8 * n + 61) := src 0 (by decide)
      rw [src0] at c2
      rw [src 1 (by decide), src 2 (by decide), src 3 (by decide), src 4 (by decide)] at c3
      rw [src 5 (by decide)] at c4
      obtain ⟨I6, e1, e2⟩ := ih I5 ⟨fun k hk => by rw [c5 _ (by omega)]; exact q1 k hk, fun k hk => by
        by_cases z : k = n
        · subst z
          exact ⟨c2, c3, c4⟩
        · obtain ⟨y1, y2, y3⟩ := q2 k (by omega)
          rw [c5 (38 + 8 * k + 0) (by omega), c5 (38 + 8 * k + 0 + 1) (by omega), c5 (38 + 8 * k + 0 + 2) (by omega), c5 (38 + 8 * k + 0 + 3) (by omega), c5 (38 + 8 * k + 0 + 4) (by omega), c5 (38 + 8 * k + 0 + 5) (by omega)]
          exact ⟨y1, y2, y3⟩⟩
      refine ⟨I6, e1, fun r hr => ?_⟩
      have q := e2 r hr
      have s9 : SH (38 + 8 * n) = (6, 10) := (RA_0 hn).1
      rw [U_106_4]
      simp (disch := first | omega | assumption | exact rfl) only [U_106_5, XX, QQ, WW, KK, QX, SHs, RRs, Nat.reduceAdd, Nat.reduceMul, Nat.reduceLeDiff, Nat.reduceEqDiff, List.length_cons, List.length_nil, decide_true, decide_false, Bool.true_and, Bool.and_true, Bool.false_and, Bool.and_false, false_and, and_false, Bool.false_eq_true, Bool.true_eq_false, reduceCtorEq, eq_self, if_true, if_false, true_and, and_true, not_true_eq_false, not_false_eq_true, if_pos, if_neg, z_ite_not, false_or, or_false, true_or, or_true, SWs, swk_0, swk_1, R6r, R67r, s9, c1]
      exact q
  obtain ⟨I4, ⟨g3, g4⟩, L2⟩ := L2
  obtain ⟨I5, hI5⟩ : ∃ I5, I5 = va_up I4 7 (va_cpy (I4 68) (I4 7) 0 0 576) := ⟨_, rfl⟩
  obtain ⟨I6, c1, c2, c3, c4, c5⟩ := c_cpH2 (X := X) (d := d) (I := I5) (J := J2) (by omega)
  have fin : ∀ k, k < 14 ∨ 61 < k → I4 k = I0 k := fun k hk => by rw [g3 k (by omega), (g1 k (by omega)).1]
  have f5 : ∀ k, k ≠ 7 → I5 k = I4 k := fun k hk => by rw [hI5, vu_ne hk]
  refine ⟨I6, J2, ?_, ⟨fun i hi => ?_, fun i hi => ⟨?_, ?_⟩, fun i hi => ?_, fun a ha => ?_, fun k hk => ?_, fun i hi => ?_, ?_, fun i hi => ?_, fun i hi => ?_⟩, fun k hk => ?_, fun k hk => ?_⟩
  · refine callF_at (by omega) (by decide) (Nat.le_of_ble_eq_true rfl) (fun d' hd' => ?_)
    obtain rfl : d = d' := by omega
    show Ev X d 106 0 [.ref 1, .ref 62, .retAddr 0] [] (mk I J) _
    simp (disch := first | omega | assumption | exact rfl) only [U_106_0, XX, QQ, WW, KK, QX, SHs, RRs, Nat.reduceAdd, Nat.reduceMul, Nat.reduceLeDiff, Nat.reduceEqDiff, List.length_cons, List.length_nil, decide_true, decide_false, Bool.true_and, Bool.and_true, Bool.false_and, Bool.and_false, false_and, and_false, Bool.false_eq_true, Bool.true_eq_false, reduceCtorEq, eq_self, if_true, if_false, true_and, and_true, not_true_eq_false, not_false_eq_true, if_pos, if_neg, z_ite_not, false_or, or_false, true_or, or_true, SWs, swk_0, swk_1]
    rw [← hI0, ← hJ0]
    apply L1
    simp (disch := first | omega | assumption | exact rfl) only [U_106_3, XX, QQ, WW, KK, QX, SHs, RRs, Nat.reduceAdd, Nat.reduceMul, Nat.reduceLeDiff, Nat.reduceEqDiff, List.length_cons, List.length_nil, decide_true, decide_false, Bool.true_and, Bool.and_true, Bool.false_and, Bool.and_false, false_and, and_false, Bool.false_eq_true, Bool.true_eq_false, reduceCtorEq, eq_self, if_true, if_false, true_and, and_true, not_true_eq_false, not_false_eq_true, if_pos, if_neg, z_ite_not, false_or, or_false, true_or, or_true, SWs, swk_0, swk_1]
    apply L2
    rw [hI5] at c1
    simp (disch := first | omega | assumption | exact rfl) only [U_106_6, XX, QQ, WW, KK, QX, SHs, RRs, Nat.reduceAdd, Nat.reduceMul, Nat.reduceLeDiff, Nat.reduceEqDiff, List.length_cons, List.length_nil, decide_true, decide_false, Bool.true_and, Bool.and_true, Bool.false_and, Bool.and_false, false_and, and_false, Bool.false_eq_true, Bool.true_eq_false, reduceCtorEq, eq_self, if_true, if_false, true_and, and_true, not_true_eq_false, not_false_eq_true, if_pos, if_neg, z_ite_not, false_or, or_false, true_or, or_true, SWs, swk_0, swk_1, c1]
  · rw [c5 _ (by omega), f5 _ (by omega), fin _ (by omega), hI0, vu_ne (by omega), vu_ne (by omega), vu_eq]
    obtain rfl | rfl | rfl | rfl | rfl : i = 0 ∨ i = 1 ∨ i = 2 ∨ i = 3 ∨ i = 4 := by omega
    · rw [vu_ne (by decide), vu_ne (by decide), vu_ne (by decide), vu_ne (by decide), vu_eq]
    · rw [vu_ne (by decide), vu_ne (by decide), vu_ne (by decide), vu_eq]
    · rw [vu_ne (by decide), vu_ne (by decide), vu_eq]
    · rw [vu_ne (by decide), vu_eq]
    · rw [vu_eq]
  · rw [c5 _ (by omega), f5 _ (by omega), fin _ (by omega), hI0, vu_ne (by omega), vu_eq, va_cpy0 hi]
  · rw [c5 _ (by omega), f5 _ (by omega), fin _ (by omega), hI0, vu_eq, va_cpy0 hi]
  · rw [(g1 _ (by omega)).2, hJ0, vu_eq, va_cpJ hi]
  · have e : ∀ x, x ≤ 3 → I6 (14 + 4 * a + 0 + x) = I2 (14 + 4 * a + 0 + x) := fun x hx => by rw [c5 _ (by omega), f5 _ (by omega), g3 _ (by omega)]
    have e0 : I6 (14 + 4 * a + 0) = I2 (14 + 4 * a + 0) := e 0 (by decide)
    rw [e0, e 1 (by decide), e 2 (by decide), e 3 (by decide)]
    exact g2 a ha
  · have e : ∀ x, x ≤ 5 → I6 (38 + 8 * k + 0 + x) = I4 (38 + 8 * k + 0 + x) := fun x hx => by rw [c5 _ (by omega), f5 _ (by omega)]
    have e0 : I6 (38 + 8 * k + 0) = I4 (38 + 8 * k + 0) := e 0 (by decide)
    rw [e0, e 1 (by decide), e 2 (by decide), e 3 (by decide), e 4 (by decide), e 5 (by decide)]
    exact g4 k hk
  · rw [c5 _ (by omega), hI5, vu_eq, va_cpy0 hi, fin _ (by omega), f0 _ (by omega)]
  · show I6 8 0 = I 69 0
    rw [c2, f5 _ (by omega), fin _ (by omega), f0 _ (by omega)]
  · show I6 9 i = I 70 i ∧ I6 10 i = I 71 i ∧ I6 11 i = I 72 i
    have := c3 i hi
    rw [f5 70 (by omega), fin 70 (by omega), f0 70 (by omega), f5 71 (by omega), fin 71 (by omega), f0 71 (by omega), f5 72 (by omega), fin 72 (by omega), f0 72 (by omega)] at this
    exact this
  · show I6 12 i = I 73 i ∧ I6 13 i = I 74 i
    have := c4 i hi
    rw [f5 73 (by omega), fin 73 (by omega), f0 73 (by omega), f5 74 (by omega), fin 74 (by omega), f0 74 (by omega)] at this
    exact this
  · rw [c5 _ (by omega), f5 _ (by omega), fin _ (by omega), f0 _ (by omega)]
  · rw [(g1 _ (by omega)).2, j0 _ (by omega)]
theorem b_image {X : Nat × (Nat → Int32)} {d : Nat} {I : Nat → Nat → Int32} {J : Nat → Nat → Int64} {v : Int32} (hd : 4 ≤ d) (h : Inv I J) (hv : v = 0 ∨ v = 1) : Both X d 150 257 [.int v] I J := by
  obtain ⟨w, ⟨pb, p1, p2, p3⟩, ⟨tl, t1, t2, t3, t4⟩, g1, g2⟩ := id h
  obtain ⟨d, rfl⟩ : ∃ d', d = d' + 1 := ⟨d - 1, by omega⟩
  rcases hv with rfl | rfl
  · cases pb with
    | false =>
      refine Both_0 (nI 0) h ?_ ?_
      · refine callF_at (by omega) (by decide) (Nat.le_of_ble_eq_true rfl) (fun d _ => ?_)
        show Ev X d 150 0 [.ref 0, .int 0] [] ( mk I J) _
        simp (disch := first | omega | assumption | exact rfl) only [U_150_0, U_150_2, U_150_4, XX, QQ, WW, KK, QX, SHs, RRs, Nat.reduceAdd, Nat.reduceMul, Nat.reduceLeDiff, Nat.reduceEqDiff, List.length_cons, List.length_nil, decide_true, decide_false, Bool.true_and, Bool.and_true, Bool.false_and, Bool.and_false, false_and, and_false, Bool.false_eq_true, Bool.true_eq_false, reduceCtorEq, eq_self, if_true, if_false, true_and, and_true, not_true_eq_false, not_false_eq_true, if_pos, if_neg, z_ite_not, false_or, or_false, true_or, or_true, SWs, swk_0, swk_1, p1]
      · refine callF_at (by omega) (by decide) (Nat.le_of_ble_eq_true rfl) (fun d _ => ?_)
        show Ev X d 257 0 [.ref 177, .int 0, .retAddr 0] [] ( mk I J) _
        simp (disch := first | omega | assumption | exact rfl) only [U_257_0, U_257_1, U_257_2, XX, QQ, WW, KK, QX, SHs, RRs, Nat.reduceAdd, Nat.reduceMul, Nat.reduceLeDiff, Nat.reduceEqDiff, List.length_cons, List.length_nil, decide_true, decide_false, Bool.true_and, Bool.and_true, Bool.false_and, Bool.and_false, false_and, and_false, Bool.false_eq_true, Bool.true_eq_false, reduceCtorEq, eq_self, if_true, if_false, true_and, and_true, not_true_eq_false, not_false_eq_true, if_pos, if_neg, z_ite_not, false_or, or_false, true_or, or_true, SWs, swk_0, swk_1, p2]
    | true =>
      obtain ⟨I1, J1, c1, c2, c3, c4⟩ := c_copyWorld2 (X := X) (d := d) (I := I) (J := J) (by omega)
      have e179 : I1 179 = I 179 := c3 _ (by omega)
      have e2 : I1 0 2 = bI true := by rw [c3 _ (by omega)]; exact p1
      have e3 : I1 177 2 = bI true := by rw [c3 _ (by omega)]; exact p2
      refine ⟨nI 1, I1, J1, va_up (va_up I1 178 (va_cpy (I1 179) (I1 178) 0 0 7160)) 177 (va_up (I1 177) 2 (nI 1)), ?_, ?_, ?_⟩
      · refine callF_at (by omega) (by decide) (Nat.le_of_ble_eq_true rfl) (fun d' hd' => ?_)
        obtain rfl : d = d' := by omega
        show Ev X d 150 0 [.ref 0, .int 0] [] (mk I J) _
        simp (disch := first | omega | assumption | exact rfl) only [U_150_0, U_150_2, U_150_3, U_150_4, XX, QQ, WW, KK, QX, SHs, RRs, Nat.reduceAdd, Nat.reduceMul, Nat.reduceLeDiff, Nat.reduceEqDiff, List.length_cons, List.length_nil, decide_true, decide_false, Bool.true_and, Bool.and_true, Bool.false_and, Bool.and_false, false_and, and_false, Bool.false_eq_true, Bool.true_eq_false, reduceCtorEq, eq_self, if_true, if_false, true_and, and_true, not_true_eq_false, not_false_eq_true, if_pos, if_neg, z_ite_not, false_or, or_false, true_or, or_true, SWs, swk_0, swk_1, p1, c1, e2]
      · refine callF_at (by omega) (by decide) (Nat.le_of_ble_eq_true rfl) (fun d _ => ?_)
        show Ev X d 257 0 [.ref 177, .int 0, .retAddr 0] [] ( mk I1 J1) _
        simp (disch := first | omega | assumption | exact rfl) only [U_257_0, U_257_1, U_257_3, XX, QQ, WW, KK, QX, SHs, RRs, Nat.reduceAdd, Nat.reduceMul, Nat.reduceLeDiff, Nat.reduceEqDiff, List.length_cons, List.length_nil, decide_true, decide_false, Bool.true_and, Bool.and_true, Bool.false_and, Bool.and_false, false_and, and_false, Bool.false_eq_true, Bool.true_eq_false, reduceCtorEq, eq_self, if_true, if_false, true_and, and_true, not_true_eq_false, not_false_eq_true, if_pos, if_neg, z_ite_not, false_or, or_false, true_or, or_true, SWs, swk_0, swk_1, e3]
        refine lpI (n := 7160) (P := fun k => Ev X d 257 4 [.ref 177, .int 0, .int (nI k)] [] (mk (va_up I1 178 (va_cpy (I1 179) (I1 178) 0 0 k)) J1) (some (.int (nI 1)), mk (va_up (va_up I1 178 (va_cpy (I1 179) (I1 178) 0 0 7160)) 177 (va_up (I1 177) 2 (nI 1))) J1)) ?_ ?_ (fun L => by
          have e : va_cpy (I1 179) (I1 178) 0 0 0 = I1 178 := by funext k; unfold va_cpy; rw [if_neg (by omega)]
          rw [e, vu_id] at L; exact L)
        · rw [U_257_4]
          simp (disch := first | omega | assumption | exact rfl) only [U_257_9, XX, QQ, WW, KK, QX, SHs, RRs, Nat.reduceAdd, Nat.reduceMul, Nat.reduceLeDiff, Nat.reduceEqDiff, List.length_cons, List.length_nil, decide_true, decide_false, Bool.true_and, Bool.and_true, Bool.false_and, Bool.and_false, false_and, and_false, Bool.false_eq_true, Bool.true_eq_false, reduceCtorEq, eq_self, if_true, if_false, true_and, and_true, not_true_eq_false, not_false_eq_true, if_pos, if_neg, z_ite_not, false_or, or_false, true_or, or_true, SWs, swk_0, swk_1]
        · intro k hk ih
          rw [U_257_4]
          have e : va_up (va_cpy (I1 179) (I1 178) 0 0 k) k (I1 179 k) = va_cpy (I1 179) (I1 178) 0 0 (k + 1) := by
            funext i; unfold va_up va_cpy
            by_cases z : i = k
            · rw [if_pos z, if_pos (by omega), z]; congr 1; omega
            · rw [if_neg z]
              by_cases z2 : i < k
              · rw [if_pos (by omega), if_pos (by omega)]
              · rw [if_neg (by omega), if_neg (by omega)]
          rw [← e] at ih
          simp (disch := first | omega | assumption | exact rfl) only [U_257_5, U_257_7, U_257_8, XX, QQ, WW, KK, QX, SHs, RRs, Nat.reduceAdd, Nat.reduceMul, Nat.reduceLeDiff, Nat.reduceEqDiff, List.length_cons, List.length_nil, decide_true, decide_false, Bool.true_and, Bool.and_true, Bool.false_and, Bool.and_false, false_and, and_false, Bool.false_eq_true, Bool.true_eq_false, reduceCtorEq, eq_self, if_true, if_false, true_and, and_true, not_true_eq_false, not_false_eq_true, if_pos, if_neg, z_ite_not, false_or, or_false, true_or, or_true, SWs, swk_0, swk_1]
          exact ih
      · have r2 : ∀ k, k ≠ 177 → k ≠ 178 → va_up (va_up I1 178 (va_cpy (I1 179) (I1 178) 0 0 7160)) 177 (va_up (I1 177) 2 (nI 1)) k = I1 k := fun k k1 k2 => by rw [vu_ne k1, vu_ne k2]
        have r3 : ∀ i, i ≠ 2 → va_up (va_up I1 178 (va_cpy (I1 179) (I1 178) 0 0 7160)) 177 (va_up (I1 177) 2 (nI 1)) 177 i = I 177 i := fun i hi => by rw [vu_eq, vu_ne hi, c3 _ (by omega)]
        refine ⟨?_, ⟨true, ?_, ?_, fun _ => ?_⟩, ⟨tl, t1, ?_, ?_, fun i hi => ?_⟩, ?_, ?_⟩
        · refine WRel_fr (I := va_up I1 178 (va_cpy (I1 179) (I1 178) 0 0 7160)) (J := J1) (fun a ha => WA_0 ha) (fun k _ _ => by rw [vu_ne (by omega)]) (fun k _ _ => rfl) (by rw [vu_ne (by decide)]) ?_
          refine WRel_cp (I := I) (J := J) (o := 61) (r := 179) (fun a ha => WA_0 ha) ?_ (fun i hi => by rw [vu_eq, va_cpy0 hi, e179]) (p3 rfl)
          have n178 : ∀ k, k ≠ 178 → va_up I1 178 (va_cpy (I1 179) (I1 178) 0 0 7160) k = I1 k := fun k hk => vu_ne hk
          obtain ⟨x1, x2, x3, x4, x5, x6, x7, x8, x9⟩ := c2
          refine ⟨fun i hi => ?_, fun i hi => ?_, x3, fun a ha => ?_, fun k hk => ?_, fun i hi => ?_, ?_, fun i hi => ?_, fun i hi => ?_⟩
          · rw [n178 _ (by omega)]; exact x1 i hi
          · rw [n178 (2 + 0) (by omega), n178 (3 + 0) (by omega)]; exact x2 i hi
          · rw [n178 (14 + 4 * a + 0) (by omega), n178 (14 + 4 * a + 0 + 1) (by omega), n178 (14 + 4 * a + 0 + 2) (by omega), n178 (14 + 4 * a + 0 + 3) (by omega)]; exact x4 a ha
          · rw [n178 (38 + 8 * k + 0) (by omega), n178 (38 + 8 * k + 0 + 1) (by omega), n178 (38 + 8 * k + 0 + 2) (by omega), n178 (38 + 8 * k + 0 + 3) (by omega), n178 (38 + 8 * k + 0 + 4) (by omega), n178 (38 + 8 * k + 0 + 5) (by omega)]; exact x5 k hk
          · rw [n178 _ (by omega)]; exact x6 i hi
          · rw [n178 _ (by omega)]; exact x7
          · rw [n178 (9 + 0) (by omega), n178 (10 + 0) (by omega), n178 (11 + 0) (by omega)]; exact x8 i hi
          · rw [n178 (12 + 0) (by omega), n178 (13 + 0) (by omega)]; exact x9 i hi
        · rw [r2 _ (by decide) (by decide)]; exact e2
        · rw [vu_eq, vu_eq]; rfl
        · exact WRel_fr (fun a ha => WA_61 ha) (fun k _ _ => by rw [r2 _ (by omega) (by omega), c3 _ (by omega)]) (fun k _ _ => c4 _ (by omega)) (by rw [r2 _ (by decide) (by decide), e179]) (p3 rfl)
        · rw [r2 _ (by decide) (by decide), c3 _ (by omega)]; exact t2
        · rw [r3 _ (by decide)]; exact t3
        · rw [r2 _ (by decide) (by decide), r2 _ (by decide) (by decide), c3 _ (by omega), c3 _ (by omega)]; exact t4 i hi
        · rw [r2 _ (by decide) (by decide), c3 _ (by omega), r3 _ (by decide)]; exact g1
        · rw [r2 _ (by decide) (by decide), c3 _ (by omega), r3 _ (by decide)]; exact g2
  · obtain ⟨I1, J1, c1, c2, c3, c4⟩ := c_copyWorld1 (X := X) (d := d) (I := I) (J := J) (by omega)
    have e178 : I1 178 = I 178 := c3 _ (by omega)
    refine ⟨nI 1, va_up I1 0 (va_up (I1 0) 2 (nI 1)), J1, va_up (va_up (va_up I1 0 (va_up (I1 0) 2 (nI 1))) 179 (va_cpy (I1 178) (I1 179) 0 0 7160)) 177 (va_up (I1 177) 2 (nI 1)), ?_, ?_, ?_⟩
    · refine callF_at (by omega) (by decide) (Nat.le_of_ble_eq_true rfl) (fun d' hd' => ?_)
      obtain rfl : d = d' := by omega
      show Ev X d 150 0 [.ref 0, .int 1] [] (mk I J) _
      have o0 : ¬ ((1 : Int32) = 0) := by decide
      simp (disch := first | omega | assumption | exact rfl) only [U_150_0, U_150_1, XX, QQ, WW, KK, QX, SHs, RRs, Nat.reduceAdd, Nat.reduceMul, Nat.reduceLeDiff, Nat.reduceEqDiff, List.length_cons, List.length_nil, decide_true, decide_false, Bool.true_and, Bool.and_true, Bool.false_and, Bool.and_false, false_and, and_false, Bool.false_eq_true, Bool.true_eq_false, reduceCtorEq, eq_self, if_true, if_false, true_and, and_true, not_true_eq_false, not_false_eq_true, if_pos, if_neg, z_ite_not, false_or, or_false, true_or, or_true, SWs, swk_0, swk_1, c1, o0]
    · refine callF_at (by omega) (by decide) (Nat.le_of_ble_eq_true rfl) (fun d _ => ?_)
      show Ev X d 257 0 [.ref 177, .int 1, .retAddr 0] [] ( mk (va_up I1 0 (va_up (I1 0) 2 (nI 1))) J1) _
      have o0 : ¬ ((1 : Int32) = 0) := by decide
      simp (disch := first | omega | assumption | exact rfl) only [U_257_0, U_257_3, XX, QQ, WW, KK, QX, SHs, RRs, Nat.reduceAdd, Nat.reduceMul, Nat.reduceLeDiff, Nat.reduceEqDiff, List.length_cons, List.length_nil, decide_true, decide_false, Bool.true_and, Bool.and_true, Bool.false_and, Bool.and_false, false_and, and_false, Bool.false_eq_true, Bool.true_eq_false, reduceCtorEq, eq_self, if_true, if_false, true_and, and_true, not_true_eq_false, not_false_eq_true, if_pos, if_neg, z_ite_not, false_or, or_false, true_or, or_true, SWs, swk_0, swk_1, o0]
      obtain ⟨I2, hI2⟩ : ∃ I2, I2 = va_up I1 0 (va_up (I1 0) 2 (nI 1)) := ⟨_, rfl⟩
      have y8 : I1 178 = I2 178 := by rw [hI2, vu_ne (by decide)]
      have y9 : I1 179 = I2 179 := by rw [hI2, vu_ne (by decide)]
      have y7 : I1 177 = I2 177 := by rw [hI2, vu_ne (by decide)]
      rw [← hI2, y8, y9, y7]
      refine lpI (n := 7160) (P := fun k => Ev X d 257 4 [.ref 177, .int 1, .int (nI k)] [] (mk (va_up I2 179 (va_cpy (I2 178) (I2 179) 0 0 k)) J1) (some (.int (nI 1)), mk (va_up (va_up I2 179 (va_cpy (I2 178) (I2 179) 0 0 7160)) 177 (va_up (I2 177) 2 (nI 1))) J1)) ?_ ?_ (fun L => by
        have e : va_cpy (I2 178) (I2 179) 0 0 0 = I2 179 := by funext k; unfold va_cpy; rw [if_neg (by omega)]
        rw [e, vu_id] at L; exact L)
      · rw [U_257_4]
        simp (disch := first | omega | assumption | exact rfl) only [U_257_9, XX, QQ, WW, KK, QX, SHs, RRs, Nat.reduceAdd, Nat.reduceMul, Nat.reduceLeDiff, Nat.reduceEqDiff, List.length_cons, List.length_nil, decide_true, decide_false, Bool.true_and, Bool.and_true, Bool.false_and, Bool.and_false, false_and, and_false, Bool.false_eq_true, Bool.true_eq_false, reduceCtorEq, eq_self, if_true, if_false, true_and, and_true, not_true_eq_false, not_false_eq_true, if_pos, if_neg, z_ite_not, false_or, or_false, true_or, or_true, SWs, swk_0, swk_1]
      · intro k hk ih
        rw [U_257_4]
        have e : va_up (va_cpy (I2 178) (I2 179) 0 0 k) k (I2 178 k) = va_cpy (I2 178) (I2 179) 0 0 (k + 1) := by
          funext i; unfold va_up va_cpy
          by_cases z : i = k
          · rw [if_pos z, if_pos (by omega), z]; congr 1; omega
          · rw [if_neg z]
            by_cases z2 : i < k
            · rw [if_pos (by omega), if_pos (by omega)]
            · rw [if_neg (by omega), if_neg (by omega)]
        rw [← e] at ih
        simp (disch := first | omega | assumption | exact rfl) only [U_257_5, U_257_6, U_257_8, XX, QQ, WW, KK, QX, SHs, RRs, Nat.reduceAdd, Nat.reduceMul, Nat.reduceLeDiff, Nat.reduceEqDiff, List.length_cons, List.length_nil, decide_true, decide_false, Bool.true_and, Bool.and_true, Bool.false_and, Bool.and_false, false_and, and_false, Bool.false_eq_true, Bool.true_eq_false, reduceCtorEq, eq_self, if_true, if_false, true_and, and_true, not_true_eq_false, not_false_eq_true, if_pos, if_neg, z_ite_not, false_or, or_false, true_or, or_true, SWs, swk_0, swk_1, o0]
        exact ih
    · have r2 : ∀ k, k ≠ 177 → k ≠ 179 → k ≠ 0 → va_up (va_up (va_up I1 0 (va_up (I1 0) 2 (nI 1))) 179 (va_cpy (I1 178) (I1 179) 0 0 7160)) 177 (va_up (I1 177) 2 (nI 1)) k = I1 k := fun k k1 k2 k3 => by rw [vu_ne k1, vu_ne k2, vu_ne k3]
      have r3 : ∀ i, i ≠ 2 → va_up (va_up (va_up I1 0 (va_up (I1 0) 2 (nI 1))) 179 (va_cpy (I1 178) (I1 179) 0 0 7160)) 177 (va_up (I1 177) 2 (nI 1)) 177 i = I 177 i := fun i hi => by rw [vu_eq, vu_ne hi, c3 _ (by omega)]
      refine ⟨?_, ⟨true, ?_, ?_, fun _ => ?_⟩, ⟨tl, t1, ?_, ?_, fun i hi => ?_⟩, ?_, ?_⟩
      · exact WRel_fr (fun a ha => WA_0 ha) (fun k _ _ => by rw [r2 _ (by omega) (by omega) (by omega), c3 _ (by omega)]) (fun k _ _ => c4 _ (by omega)) (by rw [r2 _ (by decide) (by decide) (by decide), e178]) w
      · rw [vu_ne (by decide), vu_ne (by decide), vu_eq, vu_eq]; rfl
      · rw [vu_eq, vu_eq]; rfl
      · refine WRel_fr (I := va_up I1 179 (va_cpy (I1 178) (I1 179) 0 0 7160)) (J := J1) (fun a ha => WA_61 ha) (fun k _ _ => by rw [r2 k (by omega) (by omega) (by omega), vu_ne (by omega)]) (fun k _ _ => rfl) (by rw [vu_ne (by decide), vu_eq, vu_eq]) ?_
        refine WRel_cp (I := I) (J := J) (o := 0) (r := 178) (fun a ha => WA_61 ha) ?_ (fun i hi => by rw [vu_eq, va_cpy0 hi, e178]) w
        have n178 : ∀ k, k ≠ 179 → va_up I1 179 (va_cpy (I1 178) (I1 179) 0 0 7160) k = I1 k := fun k hk => vu_ne hk
        obtain ⟨x1, x2, x3, x4, x5, x6, x7, x8, x9⟩ := c2
        refine ⟨fun i hi => ?_, fun i hi => ?_, x3, fun a ha => ?_, fun k hk => ?_, fun i hi => ?_, ?_, fun i hi => ?_, fun i hi => ?_⟩
        · rw [n178 _ (by omega)]; exact x1 i hi
        · rw [n178 (2 + 61) (by omega), n178 (3 + 61) (by omega)]; exact x2 i hi
        · rw [n178 (14 + 4 * a + 61) (by omega), n178 (14 + 4 * a + 61 + 1) (by omega), n178 (14 + 4 * a + 61 + 2) (by omega), n178 (14 + 4 * a + 61 + 3) (by omega)]; exact x4 a ha
        · rw [n178 (38 + 8 * k + 61) (by omega), n178 (38 + 8 * k + 61 + 1) (by omega), n178 (38 + 8 * k + 61 + 2) (by omega), n178 (38 + 8 * k + 61 + 3) (by omega), n178 (38 + 8 * k + 61 + 4) (by omega), n178 (38 + 8 * k + 61 + 5) (by omega)]; exact x5 k hk
        · rw [n178 _ (by omega)]; exact x6 i hi
        · rw [n178 _ (by omega)]; exact x7
        · rw [n178 (9 + 61) (by omega), n178 (10 + 61) (by omega), n178 (11 + 61) (by omega)]; exact x8 i hi
        · rw [n178 (12 + 61) (by omega), n178 (13 + 61) (by omega)]; exact x9 i hi
      · rw [vu_ne (by decide), vu_ne (by decide), vu_eq, vu_ne (by decide), c3 _ (by omega)]; exact t2
      · rw [r3 _ (by decide)]; exact t3
      · rw [r2 _ (by decide) (by decide) (by decide), r2 _ (by decide) (by decide) (by decide), c3 _ (by omega), c3 _ (by omega)]; exact t4 i hi
      · rw [r2 _ (by decide) (by decide) (by decide), c3 _ (by omega), r3 _ (by decide)]; exact g1
      · rw [r2 _ (by decide) (by decide) (by decide), c3 _ (by omega), r3 _ (by decide)]; exact g2
