/-! ===== all who touch in a wall meet: the class, whole ===== -/
def PM (F : Nat) (B : Nat → Int32) (m p q : Nat) : Prop := ∃ i, i < m ∧ (PSd F B i 0 p q ∨ PSd F B i 2 p q)
theorem PM_ok {F m : Nat} {B : Nat → Int32} (hB : WB B (pop F)) (h24 : pop F ≤ 24) (hm : m ≤ pop F) : okP (PM F B m) := by
  refine ⟨fun p q => ?_, fun p => ?_⟩
  · unfold PM
    constructor
    · rintro ⟨i, h1, h2⟩
      exact ⟨i, h1, ((PSd_ok hB h24 (by omega)).1 p q |> fun a => (or_congr a ((PSd_ok hB h24 (by omega)).1 p q))).mp h2⟩
    · rintro ⟨i, h1, h2⟩
      exact ⟨i, h1, ((PSd_ok hB h24 (by omega)).1 q p |> fun a => (or_congr a ((PSd_ok hB h24 (by omega)).1 q p))).mp h2⟩
  · rintro ⟨i, h1, h2 | h2⟩
    · exact (PSd_ok hB h24 (by omega)).2 p h2
    · exact (PSd_ok hB h24 (by omega)).2 p h2
theorem PM_s {F m : Nat} {B : Nat → Int32} {p q : Nat} : PM F B (m + 1) p q ↔ (PM F B m p q ∨ PSd F B m 0 p q) ∨ PSd F B m 2 p q := by
  constructor
  · rintro ⟨i, h1, h2⟩
    by_cases z : i = m
    · subst z
      rcases h2 with h2 | h2
      · exact .inl (.inr h2)
      · exact .inr h2
    · exact .inl (.inl ⟨i, by omega, h2⟩)
  · rintro ((⟨i, h1, h2⟩ | h) | h)
    · exact ⟨i, by omega, h2⟩
    · exact ⟨m, by omega, .inl h⟩
    · exact ⟨m, by omega, .inr h⟩
theorem PM_nr {F : Nat} {B : Nat → Int32} {p q : Nat} (h24 : pop F ≤ 24) (hp : p < 24) (hq : q < 24) : PM F B (pop F) p q ↔ (nr F B p).testBit q = true := by
  unfold nr
  rw [bs_tb]
  constructor
  · rintro ⟨i, hi, h⟩
    have : ∃ s, PSd F B i s p q := by rcases h with h | h <;> exact ⟨_, h⟩
    obtain ⟨s, _, _, j, hj, e, f⟩ := this
    have ha : adj (pl F i) (pl F j) := by
      rcases tch_in (s := s) hi with z | ⟨j', h1, h2, h3, _⟩
      · rw [e] at z; exact absurd z (nI_ne (by omega))
      · have : j' = j := nI_inj (by omega) (by omega) (h2.symm.trans e)
        subst this; exact h3
    refine ⟨hq, ?_⟩
    rcases f with f | f
    · exact ⟨i, j, hi, hj, f.1, ha, f.2⟩
    · exact ⟨j, i, hj, hi, f.2, adj_sym.mp ha, f.1⟩
  · rintro ⟨_, i, j, hi, hj, e1, ha, e2⟩
    have li := (pl_spec hi).1
    have lj := (pl_spec hj).1
    have side : (nbp (pl F i) 0 = some (pl F j) ∨ nbp (pl F i) 2 = some (pl F j)) ∨ (nbp (pl F j) 0 = some (pl F i) ∨ nbp (pl F j) 2 = some (pl F i)) := by
      have n0 : ∀ p, p % 8 < 7 → nbp p 0 = some (p + 1) := fun p h => if_pos h
      have n2 : ∀ p, p + 8 < 64 → nbp p 2 = some (p + 8) := fun p h => if_pos h
      have ha' := ha
      unfold adj at ha'
      rcases ha' with ⟨a, b⟩ | ⟨a, b⟩ | a | a
      · exact .inl (.inl (by rw [n0 _ b, a]))
      · exact .inr (.inl (by rw [n0 _ b, a]))
      · exact .inl (.inr (by rw [n2 _ (by omega), a]))
      · exact .inr (.inr (by rw [n2 _ (by omega), a]))
    rcases side with (s | s) | (s | s)
    · exact ⟨i, hi, .inl ⟨hp, hq, j, hj, tch_of hj s, .inl ⟨e1, e2⟩⟩⟩
    · exact ⟨i, hi, .inr ⟨hp, hq, j, hj, tch_of hj s, .inl ⟨e1, e2⟩⟩⟩
    · exact ⟨j, hj, .inl ⟨hp, hq, i, hi, tch_of hi s, .inr ⟨e2, e1⟩⟩⟩
    · exact ⟨j, hj, .inr ⟨hp, hq, i, hi, tch_of hi s, .inr ⟨e2, e1⟩⟩⟩
theorem c_meet {X : Nat × (Nat → Int32)} {d : Nat} {I : Nat → Nat → Int32} {J : Nat → Nat → Int64} {W F yr : Nat} {fi : Nat → Nat → Int32} (hd : 4 ≤ d) (hW : WG (mk I J) W F) (hW14 : 13 < W) (hB : WB (I (W + 1)) (pop F)) (hok : fiOk fi) (hM : MT I fi) (hy : I 1 3 = nI yr) (hyr : yr ≤ 999) :
    ∃ I', callF X d 109 [.ref 1, .ref W] (mk I J) = some (none, mk I' J) ∧ MT I' (fiP fi (nI yr) (PM F (I (W + 1)) (pop F))) ∧ FrM I I' := by
  obtain ⟨B, eB⟩ : ∃ B, B = I (W + 1) := ⟨_, rfl⟩
  rw [← eB] at hB
  rw [← eB]
  have h24 := hW.2.2.1
  have hS : SH W = (9, 5) := hW.1.1
  have hc : I W 1 = nI (pop F) := hW.2.2.2.2.1
  have hr2 : RR W 2 = some (W + 1) := hW.1.2.1
  have hs1 : SH (W + 1) = (20, 24) := hW.1.2.2.2.2.1
  obtain ⟨d, rfl⟩ : ∃ d', d = d' + 1 := ⟨d - 1, by omega⟩
  have lp : ∃ I', Ev X d 109 1 [.ref 1, .ref W, .int (nI 0)] [] (mk I J) (none, mk I' J) ∧ MT I' (fiP fi (nI yr) (PM F B (pop F))) ∧ FrM I I' := by
    refine lpI (n := pop F) (P := fun m => ∀ I1, MT I1 (fiP fi (nI yr) (PM F B m)) → FrM I I1 → ∃ I', Ev X d 109 1 [.ref 1, .ref W, .int (nI m)] [] (mk I1 J) (none, mk I' J) ∧ MT I' (fiP fi (nI yr) (PM F B (pop F))) ∧ FrM I I') ?_ ?_ (fun Q => Q I (by
      have : fiP fi (nI yr) (PM F B 0) = fi := by
        funext p q; unfold fiP
        rw [if_neg (by rw [cd_iff]; rintro ⟨_, i, h, _⟩; omega)]
      rw [this]; exact hM) (FrM_r I))
    · intro I1 h1 h2
      have c1 : I1 W 1 = nI (pop F) := by rw [h2.1 _ (by omega) (by omega)]; exact hc
      refine ⟨I1, ?_, h1, h2⟩
      rw [U_109_1]
      simp (disch := first | omega | assumption | exact rfl) only [U_109_3, XX, QQ, WW, KK, QX, SHs, RRs, Nat.reduceAdd, Nat.reduceMul, Nat.reduceLeDiff, Nat.reduceEqDiff, List.length_cons, List.length_nil, decide_true, decide_false, Bool.true_and, Bool.and_true, Bool.false_and, Bool.and_false, false_and, and_false, Bool.false_eq_true, Bool.true_eq_false, reduceCtorEq, eq_self, if_true, if_false, true_and, and_true, not_true_eq_false, not_false_eq_true, if_pos, if_neg, z_ite_not, false_or, or_false, true_or, or_true, SWs, swk_0, swk_1, hS, c1]
    · intro m hm ih I1 h1 h2
      have c1 : I1 W 1 = nI (pop F) := by rw [h2.1 _ (by omega) (by omega)]; exact hc
      have cB : I1 (W + 1) = B := by rw [h2.1 _ (by omega) (by omega), eB]
      have y1 : I1 1 3 = nI yr := by rw [h2.2 _ (by decide)]; exact hy
      obtain ⟨I2, a1, a2, a3⟩ := c_side (X := X) (d := d) (J := J) (s := 0) (by omega) hB h24 hm hok (PM_ok hB h24 (by omega)) h1 y1 hyr
      have y2 : I2 1 3 = nI yr := by rw [a3.2 _ (by decide)]; exact y1
      obtain ⟨I3, b1, b2, b3⟩ := c_side (X := X) (d := d) (J := J) (s := 2) (by omega) hB h24 hm hok (okP_or (PM_ok hB h24 (by omega)) (PSd_ok hB h24 hm)) a2 y2 hyr
      rw [fiP_cong (Q := PM F B (m + 1)) (fun p q => PM_s.symm)] at b2
      obtain ⟨I', t1, t2, t3⟩ := ih I3 b2 (FrM_t h2 (FrM_t a3 b3))
      refine ⟨I', ?_, t2, t3⟩
      have W1 : WG (mk I1 J) W F := WG_fr hW (fun a q1 q2 => h2.1 a (by omega) (by omega)) rfl
      have W2 : WG (mk I2 J) W F := WG_fr W1 (fun a q1 q2 => a3.1 a (by omega) (by omega)) rfl
      have cB2 : I2 (W + 1) = B := by rw [a3.1 _ (by omega) (by omega)]; exact cB
      have e1 := s_cellBeside (X := X) (d := d) (s := 0) (by omega) W1 hm (by decide)
      have e2 := s_brickIn (X := X) (d := d) (v := tch F m 0) (by omega) W1
      have e3 := s_cellBeside (X := X) (d := d) (s := 2) (by omega) W2 hm (by decide)
      have e4 := s_brickIn (X := X) (d := d) (v := tch F m 2) (by omega) W2
      rw [show m_I (mk I1 J) (W + 1) = B from cB] at e2
      rw [show m_I (mk I2 J) (W + 1) = B from cB2] at e4
      have hm24 : m < 24 := by omega
      rw [U_109_1]
      simp (disch := first | omega | assumption | exact rfl) only [U_109_2, XX, QQ, WW, KK, QX, SHs, RRs, Nat.reduceAdd, Nat.reduceMul, Nat.reduceLeDiff, Nat.reduceEqDiff, List.length_cons, List.length_nil, decide_true, decide_false, Bool.true_and, Bool.and_true, Bool.false_and, Bool.and_false, false_and, and_false, Bool.false_eq_true, Bool.true_eq_false, reduceCtorEq, eq_self, if_true, if_false, true_and, and_true, not_true_eq_false, not_false_eq_true, if_pos, if_neg, z_ite_not, false_or, or_false, true_or, or_true, SWs, swk_0, swk_1, hS, hr2, hs1, c1, cB, cB2, e1, e2, e3, e4, a1, b1]
      exact t1
  obtain ⟨I', t1, t2, t3⟩ := lp
  refine ⟨I', ?_, t2, t3⟩
  refine callF_at (by omega) (by decide) (Nat.le_of_ble_eq_true rfl) (fun d' hd' => ?_)
  obtain rfl : d = d' := by omega
  show Ev X d 109 0 [.ref 1, .ref W, .retAddr 0] [] (mk I J) _
  simp (disch := first | omega | assumption | exact rfl) only [U_109_0, XX, QQ, WW, KK, QX, SHs, RRs, Nat.reduceAdd, Nat.reduceMul, Nat.reduceLeDiff, Nat.reduceEqDiff, List.length_cons, List.length_nil, decide_true, decide_false, Bool.true_and, Bool.and_true, Bool.false_and, Bool.and_false, false_and, and_false, Bool.false_eq_true, Bool.true_eq_false, reduceCtorEq, eq_self, if_true, if_false, true_and, and_true, not_true_eq_false, not_false_eq_true, if_pos, if_neg, z_ite_not, false_or, or_false, true_or, or_true, SWs, swk_0, swk_1]
  exact t1
