/-! ===== pairs laid: the class ===== -/
theorem KP_le {F0 F1 : Nat} {m0 : Nat → Bool} : KP F0 m0 F1 ≤ fb_ct (lsr F0 m0) (pop F0) ∧ KP F0 m0 F1 ≤ fb_ct (lsr F1 (fun _ => true)) (pop F1) ∧ (KP F0 m0 F1 = fb_ct (lsr F0 m0) (pop F0) ∨ KP F0 m0 F1 = fb_ct (lsr F1 (fun _ => true)) (pop F1)) := by
  unfold KP; split <;> omega
theorem c_pairs2 {X : Nat × (Nat → Int32)} {d : Nat} {I : Nat → Nat → Int32} {J : Nat → Nat → Int64} {F0 F1 n0 n1 : Nat} {B : Nat → Int32} (hw0 : n0 = fb_ct (lsr F0 (isB B)) (pop F0)) (hw1 : n1 = fb_ct (lsr F1 (fun _ => true)) (pop F1)) (h24 : pop F0 ≤ 24) (h24' : pop F1 ≤ 24) (hB : ∀ i, i < 24 → I 142 i = B i) (c0 : I 141 1 = nI (pop F0)) (c1 : I 145 1 = nI (pop F1))
    (r5 : ∀ k, k < n0 → I 155 k = nI (l0F F0 (isB B) k)) (r6 : ∀ k, k < n0 → I 156 k = nI (g0F F0 (isB B) k)) (r3 : ∀ k, k < n1 → I 153 k = nI (l0F F1 (fun _ => true) k)) (r4 : ∀ k, k < n1 → I 154 k = nI (g0F F1 (fun _ => true) k)) :
    ∀ u5 : Value, Ev X d 17 1 [.ref 140, .int (nI n0), .int (nI n1), .int (nI 0), .int (nI 0), u5] [] (mk I J) (none, mk (va_up I 146 (prs F0 B F1 (I 146) (pop F0)).2) J) := by
  intro u5
  have a12 : n0 ≤ 12 := by rw [hw0]; exact lsr_12 (Nat.le_refl _) h24
  have b12 : n1 ≤ 12 := by rw [hw1]; exact lsr_12 (Nat.le_refl _) h24'
  obtain ⟨kp1, kp2, kp3⟩ := KP_le (F0 := F0) (F1 := F1) (m0 := isB B)
  rw [← hw0] at kp1 kp3
  rw [← hw1] at kp2 kp3
  obtain ⟨K, eK⟩ : ∃ K, K = KP F0 (isB B) F1 := ⟨_, rfl⟩
  rw [← eK] at kp1 kp2 kp3
  obtain ⟨pr, epr⟩ : ∃ pr, pr = prK F0 B F1 (I 146) := ⟨_, rfl⟩
  have p3 := fun (us : Nat) h1 h2 => c_pairs3 (X := X) (d := d) (I := I) (J := J) (F0 := F0) (F1 := F1) (us := us) (B := B) (base := I 146) (v1 := nI n0) (v2 := nI n1) h24 h24' hB c0 c1 h1 h2 u5
  rw [← eK, ← epr] at p3
  refine lpI (n := K) (P := fun k => Ev X d 17 1 [.ref 140, .int (nI n0), .int (nI n1), .int (nI (bs (fun c => ldK F0 B k c = true))), .int (nI k), u5] [] (mk (va_up I 146 (pr k)) J) (none, mk (va_up I 146 (prs F0 B F1 (I 146) (pop F0)).2) J)) ?_ ?_ (fun Q => by
    have e : pr 0 = I 146 := by rw [epr]; rfl
    rw [e, vu_id, bs_0 (fun k _ z => by cases z)] at Q
    exact Q)
  · have p4 := p3 (bs (fun c => ldK F0 B K c = true)) (bs_lt _) (fun i hi => by
      rw [bs_tbB]
      cases l : ldK F0 B K i with
      | true => exact cd_iff.mpr ⟨by omega, rfl⟩
      | false => exact cd_f.mpr (fun z => by cases z.2))
    rw [U_17_1]
    rcases kp3 with q | q
    · rw [q] at p4 ⊢
      simp (disch := first | omega | assumption | exact rfl) only [U_17_4, XX, QQ, WW, KK, QX, SHs, RRs, Nat.reduceAdd, Nat.reduceMul, Nat.reduceLeDiff, Nat.reduceEqDiff, List.length_cons, List.length_nil, decide_true, decide_false, Bool.true_and, Bool.and_true, Bool.false_and, Bool.and_false, false_and, and_false, Bool.false_eq_true, Bool.true_eq_false, reduceCtorEq, eq_self, if_true, if_false, true_and, and_true, not_true_eq_false, not_false_eq_true, if_pos, if_neg, z_ite_not, false_or, or_false, true_or, or_true, SWs, swk_0, swk_1]
      exact p4
    · rcases Nat.lt_or_ge K n0 with t | t
      · rw [q] at p4 t ⊢
        simp (disch := first | omega | assumption | exact rfl) only [U_17_2, U_17_4, XX, QQ, WW, KK, QX, SHs, RRs, Nat.reduceAdd, Nat.reduceMul, Nat.reduceLeDiff, Nat.reduceEqDiff, List.length_cons, List.length_nil, decide_true, decide_false, Bool.true_and, Bool.and_true, Bool.false_and, Bool.and_false, false_and, and_false, Bool.false_eq_true, Bool.true_eq_false, reduceCtorEq, eq_self, if_true, if_false, true_and, and_true, not_true_eq_false, not_false_eq_true, if_pos, if_neg, z_ite_not, false_or, or_false, true_or, or_true, SWs, swk_0, swk_1]
        exact p4
      · rw [show K = n0 by omega] at p4 ⊢
        simp (disch := first | omega | assumption | exact rfl) only [U_17_4, XX, QQ, WW, KK, QX, SHs, RRs, Nat.reduceAdd, Nat.reduceMul, Nat.reduceLeDiff, Nat.reduceEqDiff, List.length_cons, List.length_nil, decide_true, decide_false, Bool.true_and, Bool.and_true, Bool.false_and, Bool.and_false, false_and, and_false, Bool.false_eq_true, Bool.true_eq_false, reduceCtorEq, eq_self, if_true, if_false, true_and, and_true, not_true_eq_false, not_false_eq_true, if_pos, if_neg, z_ite_not, false_or, or_false, true_or, or_true, SWs, swk_0, swk_1]
        exact p4
  · intro k hk ih
    have k0 : k < n0 := by omega
    have k1 : k < n1 := by omega
    have k12 : k < 12 := by omega
    obtain ⟨x1, x2, x3, x4, x5, x6⟩ := l0F_s (F := F0) (mem := isB B) (k := k) (by omega)
    obtain ⟨y1, y2, y3, y4, y5, y6⟩ := l0F_s (F := F1) (mem := fun _ => true) (k := k) (by omega)
    have q5 := r5 k k0
    have q6 := r6 k k0
    have q3 := r3 k k1
    have q4 := r4 k k1
    have es : pr (k + 1) = va_up (va_up (pr k) (l0F F1 (fun _ => true) k) (B (l0F F0 (isB B) k))) (g0F F1 (fun _ => true) k) (B (g0F F0 (isB B) k)) := by rw [epr]; rfl
    have el : ldK F0 B (k + 1) = va_up (va_up (ldK F0 B k) (l0F F0 (isB B) k) true) (g0F F0 (isB B) k) true := rfl
    obtain ⟨l0, e1⟩ : ∃ x, x = l0F F0 (isB B) k := ⟨_, rfl⟩
    obtain ⟨g0, e2⟩ : ∃ x, x = g0F F0 (isB B) k := ⟨_, rfl⟩
    obtain ⟨l1, e3⟩ : ∃ x, x = l0F F1 (fun _ => true) k := ⟨_, rfl⟩
    obtain ⟨g1, e4⟩ : ∃ x, x = g0F F1 (fun _ => true) k := ⟨_, rfl⟩
    rw [← e1] at x1 q5 es el
    rw [← e2] at x1 x2 q6 es el
    rw [← e3] at y1 q3 es
    rw [← e4] at y1 y2 q4 es
    have eU : bs (fun c => ldK F0 B k c = true) ||| (2 ^ l0 ||| 2 ^ g0) = bs (fun c => ldK F0 B (k + 1) c = true) := by
      rw [← Nat.or_assoc, bs_ins (by omega), bs_ins (by omega), el]
      refine bs_ext (fun c _ => ?_)
      by_cases q1 : c = g0
      · subst q1; rw [vu_eq]; exact ⟨fun _ => rfl, fun _ => .inr rfl⟩
      · rw [vu_ne q1]
        by_cases q2 : c = l0
        · subst q2; rw [vu_eq]; exact ⟨fun _ => rfl, fun _ => .inl (.inr rfl)⟩
        · rw [vu_ne q2]
          exact ⟨fun t => by rcases t with (t | t) | t; exact t; exact absurd t q2; exact absurd t q1, fun t => .inl (.inl t)⟩
    rw [es, ← eU] at ih
    obtain ⟨us, eus⟩ : ∃ us, us = bs (fun c => ldK F0 B k c = true) := ⟨_, rfl⟩
    rw [← eus] at ih ⊢
    have l24 : l0 < 24 := by omega
    have g24 : g0 < 24 := by omega
    have l24' : l1 < 24 := by omega
    have g24' : g1 < 24 := by omega
    have hB1 := hB l0 l24
    have hB2 := hB g0 g24
    rw [U_17_1]
    simp (disch := first | omega | assumption | exact rfl) only [U_17_2, U_17_3, XX, QQ, WW, KK, QX, SHs, RRs, Nat.reduceAdd, Nat.reduceMul, Nat.reduceLeDiff, Nat.reduceEqDiff, List.length_cons, List.length_nil, decide_true, decide_false, Bool.true_and, Bool.and_true, Bool.false_and, Bool.and_false, false_and, and_false, Bool.false_eq_true, Bool.true_eq_false, reduceCtorEq, eq_self, if_true, if_false, true_and, and_true, not_true_eq_false, not_false_eq_true, if_pos, if_neg, z_ite_not, false_or, or_false, true_or, or_true, SWs, swk_0, swk_1, q3, q4, q5, q6, hB1, hB2, fa_or, Nat.one_mul]
    exact ih
theorem fil_m {F j : Nat} {B : Nat → Int32} (hj : j < pop F) : (fil F B).testBit (pl F j) = isB B j := by
  rw [Bool.eq_iff_iff]
  unfold fil filP
  rw [b64_tb]
  constructor
  · rintro ⟨_, k, hk, e, h⟩
    have : j = k := pl_inj hj hk e
    subst this
    simp [isB, h]
  · intro h
    exact ⟨(pl_spec hj).1, j, hj, rfl, by simpa [isB] using h⟩
theorem c_layPairs {X : Nat × (Nat → Int32)} {d : Nat} {I : Nat → Nat → Int32} {J : Nat → Nat → Int64} {F0 F1 : Nat} {B : Nat → Int32} (hd : 5 ≤ d) (hW0 : WG (mk I J) 141 F0) (hW1 : WG (mk I J) 145 F1) (hB : ∀ i, i < 24 → I 142 i = B i) :
    ∃ I', callF X d 17 [.ref 140] (mk I J) = some (none, mk I' J) ∧ I' 146 = (prs F0 B F1 (I 146) (pop F0)).2 ∧ ∀ a, a ≠ 146 → (a < 153 ∨ 156 < a) → I' a = I a := by
  obtain ⟨d, rfl⟩ : ∃ d', d = d' + 1 := ⟨d - 1, by omega⟩
  have c0 : I 141 1 = nI (pop F0) := hW0.2.2.2.2.1
  have c1 : I 145 1 = nI (pop F1) := hW1.2.2.2.2.1
  have j1 : J 145 0 = lN F1 := hW1.2.2.2.1
  have h24 := hW0.2.2.1
  have h24' := hW1.2.2.1
  have s1 := s_filled (X := X) (d := d) (by omega) hW0
  have ef : fil F0 (m_I (mk I J) (141 + 1)) = fil F0 B := b64_ext (fun p _ => by
    constructor
    · rintro ⟨j, h1, h2, h3⟩; exact ⟨j, h1, h2, by rw [← hB j (by omega)]; exact h3⟩
    · rintro ⟨j, h1, h2, h3⟩; exact ⟨j, h1, h2, by show I 142 j ≠ -1; rw [hB j (by omega)]; exact h3⟩)
  rw [ef] at s1
  have fl : fil F0 B < 2 ^ 64 := b64_lt _
  have s2 := c_couple (X := X) (d := d) (a := 155) (b := 156) (mem := isB B) (by omega) hW0 fl (fun j hj => fil_m hj) rfl rfl (by decide) (by decide) (by decide)
  obtain ⟨Ia, eIa⟩ : ∃ x, x = va_up (va_up I 155 (gatP (lsr F0 (isB B)) nI (pop F0) (pop F0) (I 155))) 156 (gatP (lsr F0 (isB B)) (fun c => nI (cw F0 (isB B) (pop F0) c - 1)) (pop F0) (pop F0) (I 156)) := ⟨_, rfl⟩
  rw [← eIa] at s2
  have fa : ∀ x, x ≠ 155 → x ≠ 156 → Ia x = I x := fun x p q => by rw [eIa, vu_ne q, vu_ne p]
  have hW1a : WG (mk Ia J) 145 F1 := WG_fr hW1 (fun a h1 h2 => fa a (by omega) (by omega)) rfl
  have s3 := c_couple (X := X) (d := d) (a := 153) (b := 154) (mem := fun _ => true) (S := F1) (by omega) hW1a hW1.2.1 (fun j hj => (pl_spec hj).2.1) rfl rfl (by decide) (by decide) (by decide)
  obtain ⟨Ib, eIb⟩ : ∃ x, x = va_up (va_up Ia 153 (gatP (lsr F1 (fun _ => true)) nI (pop F1) (pop F1) (Ia 153))) 154 (gatP (lsr F1 (fun _ => true)) (fun c => nI (cw F1 (fun _ => true) (pop F1) c - 1)) (pop F1) (pop F1) (Ia 154)) := ⟨_, rfl⟩
  rw [← eIb] at s3
  have fb : ∀ x, x ≠ 153 → x ≠ 154 → Ib x = Ia x := fun x p q => by rw [eIb, vu_ne q, vu_ne p]
  have fab : ∀ x, (x < 153 ∨ 156 < x) → Ib x = I x := fun x p => by rw [fb x (by omega) (by omega), fa x (by omega) (by omega)]
  have lp := fun u5 => c_pairs2 (X := X) (d := d) (I := Ib) (J := J) (F0 := F0) (F1 := F1) (B := B) rfl rfl h24 h24' (by rw [fab 142 (by decide)]; exact hB) (by rw [fab 141 (by decide)]; exact c0) (by rw [fab 145 (by decide)]; exact c1)
    (fun k hk => by rw [fb 155 (by decide) (by decide), eIa, vu_ne (by decide), vu_eq]; unfold gatP l0F; rw [if_pos hk])
    (fun k hk => by rw [fb 156 (by decide) (by decide), eIa, vu_eq]; unfold gatP g0F l0F; rw [if_pos hk])
    (fun k hk => by rw [eIb, vu_ne (by decide), vu_eq]; unfold gatP l0F; rw [if_pos hk])
    (fun k hk => by rw [eIb, vu_eq]; unfold gatP g0F l0F; rw [if_pos hk]) u5
  have e146 : Ib 146 = I 146 := fab 146 (by decide)
  rw [e146] at lp
  refine ⟨va_up Ib 146 (prs F0 B F1 (I 146) (pop F0)).2, ?_, vu_eq, fun a h1 h2 => by rw [vu_ne h1, fab a h2]⟩
  refine callF_at (by omega) (by decide) (Nat.le_of_ble_eq_true rfl) (fun d' hd' => ?_)
  obtain rfl : d = d' := by omega
  show Ev X d 17 0 [.ref 140, .retAddr 0, .retAddr 0, .retAddr 0, .retAddr 0, .retAddr 0] [] (mk I J) _
  simp (disch := first | omega | assumption | exact rfl) only [U_17_0, XX, QQ, WW, KK, QX, SHs, RRs, Nat.reduceAdd, Nat.reduceMul, Nat.reduceLeDiff, Nat.reduceEqDiff, List.length_cons, List.length_nil, decide_true, decide_false, Bool.true_and, Bool.and_true, Bool.false_and, Bool.and_false, false_and, and_false, Bool.false_eq_true, Bool.true_eq_false, reduceCtorEq, eq_self, if_true, if_false, true_and, and_true, not_true_eq_false, not_false_eq_true, if_pos, if_neg, z_ite_not, false_or, or_false, true_or, or_true, SWs, swk_0, swk_1, s1, s2, s3, j1]
  exact lp _
