/-! ===== the start: what holds between calls holds ===== -/
theorem pop0 : pop 0 = 0 := pop_0
theorem Inv_0 {I : Nat → Nat → Int32} {J : Nat → Nat → Int64} (hW : WC I J) (h0 : I 0 = zI) (h1 : I 124 1 = 0) (h2 : I 124 2 = -1) (h7 : I 177 = va_up zI 21 (-1)) (g1 : ∀ i, i < 144 → I 178 (668 + i) = -1) (g2 : ∀ i, i < 576 → I 178 (850 + i) = -1) (g3 : ∀ x, ¬ (668 ≤ x ∧ x < 812) → ¬ (850 ≤ x ∧ x < 1426) → I 178 x = 0) : Inv I J := by
  obtain ⟨w1, w2, w3, w4, w7, w8, a1, a2, a3, b1, b2, b3, c1, c2, c3, d1, d2, d3, e1, e2, e3, f1, f2, f3, r1, r2, r3⟩ := hW
  have wl : ∀ a, a < 6 → J (14 + 4 * a) 0 = lN 0 ∧ I (14 + 4 * a) 1 = nI 0 ∧ ∀ i, i < 24 → I (14 + 4 * a + 1) i = -1 := by
    intro a ha
    obtain rfl | rfl | rfl | rfl | rfl | rfl : a = 0 ∨ a = 1 ∨ a = 2 ∨ a = 3 ∨ a = 4 ∨ a = 5 := by omega
    · exact ⟨a1, a2, a3⟩
    · exact ⟨b1, b2, b3⟩
    · exact ⟨c1, c2, c3⟩
    · exact ⟨d1, d2, d3⟩
    · exact ⟨e1, e2, e3⟩
    · exact ⟨f1, f2, f3⟩
  have rl : ∀ k, k < 3 → I (38 + 8 * k) = zI := by
    intro k hk
    obtain rfl | rfl | rfl : k = 0 ∨ k = 1 ∨ k = 2 := by omega
    · exact r1
    · exact r2
    · exact r3
  have mt : ∀ b, mtS (fun _ _ => -1) b = 0 := fun b => bs_0 (fun k _ h => h rfl)
  refine ⟨⟨⟨?_, 0, 0, 0, by decide, by decide, by decide, ?_, ?_, ?_, ?_, ?_, ?_⟩, ⟨fun _ => 0, fun _ => 0, fun k hk => ⟨(by decide : (0 : Nat) < 4), (by decide : (0 : Nat) < 2), ?_, ?_, ?_, ?_⟩⟩, ⟨fun _ => 0, fun s hs => ⟨(by decide : (0 : Nat) < 2 ^ 64), ?_, by rw [pop0]; decide, ?_, fun i hi => ?_⟩⟩, ⟨fun _ => 0, fun a ha => ⟨⟨WA_0 ha, (by decide : (0 : Nat) < 2 ^ 64), by rw [pop0]; decide, ?_, ?_, fun i hi => ?_, fun i s hi => ?_⟩, ?_, by rw [pop0]; decide, ?_, fun i hi => ?_, fun i hi => ?_⟩⟩, ⟨fun _ _ => -1, fun b c hb hc => ⟨rfl, ?_⟩, fun b hb => ⟨rfl, ?_⟩, fun b c hb hc => ?_, ?_⟩, ⟨0, by decide, ?_, ?_, fun y hy => absurd hy (Nat.not_lt_zero y)⟩, fun k hk => ⟨0, by decide, ?_, ?_, fun i hi => absurd hi (Nat.not_lt_zero i)⟩⟩, ⟨false, ?_, ?_, fun z => absurd z (by decide)⟩, ⟨0, by decide, ?_, ?_, fun i hi => absurd hi (Nat.not_lt_zero i)⟩, ?_, ?_⟩
  · rw [Nat.add_zero, w1, g3 0 (by omega) (by omega)]; rfl
  · rw [Nat.add_zero, w1]; rfl
  · rw [g3 1 (by omega) (by omega)]; rfl
  · rw [Nat.add_zero, w1]; rfl
  · rw [g3 2 (by omega) (by omega)]; rfl
  · rw [Nat.add_zero, w1]; rfl
  · rw [g3 3 (by omega) (by omega)]; rfl
  · rw [Nat.add_zero, w2]; rfl
  · rw [g3 _ (by omega) (by omega)]; rfl
  · rw [Nat.add_zero, w3]; rfl
  · rw [g3 _ (by omega) (by omega)]; rfl
  · rw [Nat.add_zero, w4]; rfl
  · rw [g3 _ (by omega) (by omega), pop0]; rfl
  · rw [pop0] at hi; exact absurd hi (Nat.not_lt_zero i)
  · exact (wl a ha).1
  · show I (14 + 4 * a) 1 = _
    rw [(wl a ha).2.1, pop0]
  · rw [pop0] at hi; exact absurd hi (Nat.not_lt_zero i)
  · rw [pop0] at hi; exact absurd hi (Nat.not_lt_zero i)
  · rw [Nat.add_zero]; exact WB_m (by rw [pop0]; decide) (wl a ha).2.2
  · rw [g3 _ (by omega) (by omega), pop0]; rfl
  · rw [pop0] at hi; exact absurd hi (Nat.not_lt_zero i)
  · rw [Nat.add_zero, (wl a ha).2.2 i hi, show 668 + 24 * a + i = 668 + (24 * a + i) by omega, g1 _ (by omega)]
  · rw [show 850 + 24 * b + c = 850 + (24 * b + c) by omega, g2 _ (by omega)]
  · rw [g3 _ (by omega) (by omega), mt]; rfl
  · rw [Nat.add_zero, w7 _ (by omega)]
  · have : metN (fun _ _ => -1) = 0 := by
      unfold metN
      rw [fb_sm_cong (g := fun _ => 0) (fun k _ => by rw [mt, pop0]), fb_sm_const]
    rw [Nat.add_zero, w1, this]; rfl
  · rw [Nat.add_zero, w8]; rfl
  · rw [g3 4 (by omega) (by omega)]; rfl
  · rw [Nat.add_zero, rl k hk]; rfl
  · rw [g3 _ (by omega) (by omega)]; rfl
  · rw [h0]; rfl
  · rw [h7]; rfl
  · rw [h0]; rfl
  · rw [h7]; rfl
  · rw [h1, h7]; rfl
  · rw [h2, h7]; rfl
/-- both constructors -/
theorem start_ {X : Nat × (Nat → Int32)} {d : Nat} (hd : 8 ≤ d) : ∃ I J, Inv I J ∧ ∀ r, Ev X d 269 1 [.float 1000, .ref 0, .ref 177, .int (nI 0)] [] (mk I J) r → Ev X d 269 0 [.float 1000, .retAddr 0, .retAddr 0, .retAddr 0] [] M00 r := by
  have e0 : M00 = mkS 0 (fun _ => nR) (fun _ => zI) (fun _ => zJ) := by
    show (0, 0, (fun _ => (99, 0)), _, _, _) = (0, ZP 0, SHp 0, _, _, _)
    rw [show SHp 0 = fun _ => (99, 0) by funext a; exact if_neg (Nat.not_lt_zero a)]
    rfl
  obtain ⟨I1, J1, e1, f1, a0, a1, a2, a3⟩ := ol_0 (X := X) (d := d) (R := va_up (fun _ => nR) 0 nR) (I := va_up (fun _ => zI) 0 zI) (J := va_up (fun _ => zJ) 0 zJ) (by omega) vu_eq
  obtain ⟨I2, J2, e2, b1, b2, b3, b4, b5, b6⟩ := mo_177 (X := X) (d := d) (R := va_up (fq (va_up (fun _ => nR) 0 nR) 0 177) 177 nR) (I := va_up I1 177 zI) (J := va_up J1 177 zJ) (by omega) vu_eq (fun a ha => by
    rw [vu_ne (by omega)]
    by_cases z : a < 177
    · exact if_pos ⟨Nat.zero_le _, z⟩
    · refine (if_neg (by omega)).trans ?_
      rw [vu_ne (by omega), RR_out (by omega)])
  have s0 : SH 0 = (11, 12) := rfl
  have s177 : SH 177 = (12, 46) := rfl
  have c1 : ∀ a, a < 177 → I2 a = I1 a := fun a ha => by rw [b1 a ha, vu_ne (by omega)]
  have c2 : ∀ a, a < 177 → J2 a = J1 a := fun a ha => by rw [b2 a ha, vu_ne (by omega)]
  refine ⟨I2, J2, Inv_0 (WC_fr (fun a _ h => c1 a (by omega)) (fun a _ h => c2 a (by omega)) a1) (by rw [c1 0 (by decide), a0, vu_eq]) (by rw [c1 124 (by decide)]; exact a2) (by rw [c1 124 (by decide)]; exact a3) (by rw [b3, vu_eq]) b4 b5 b6, fun r Hr => ?_⟩
  rw [e0]
  simp (disch := first | omega | assumption | exact rfl) only [U_269_0, XX, QQ, WW, KK, QX, SHs, RRs, Nat.reduceAdd, Nat.reduceMul, Nat.reduceLeDiff, Nat.reduceEqDiff, List.length_cons, List.length_nil, decide_true, decide_false, Bool.true_and, Bool.and_true, Bool.false_and, Bool.and_false, false_and, and_false, Bool.false_eq_true, Bool.true_eq_false, reduceCtorEq, eq_self, if_true, if_false, true_and, and_true, not_true_eq_false, not_false_eq_true, if_pos, if_neg, z_ite_not, false_or, or_false, true_or, or_true, SWs, swk_0, swk_1, SSs, e1, e2]
  exact Hr
