/-! ===== good, judge, look ===== -/
noncomputable def Inear (I : Nat → Nat → Int32) (F1 : Nat) (B1 : Nat → Int32) (F2 : Nat) (B2 : Nat → Int32) (al : Nat) (mks : Nat → Nat) : Nat → Nat → Int32 := Iwgh (Ilrn I 137 F1 B1 al mks) 137 F1 B1 F2 B2 al mks
section INR
variable {I : Nat → Nat → Int32} {F1 F2 al : Nat} {B1 B2 : Nat → Int32} {mks : Nat → Nat}
theorem In_3 : Inear I F1 B1 F2 B2 al mks 137 3 = nI (badS F1 B1 F2 B2 al mks) := by
  unfold Inear Iwgh; rw [vu_eq, vu_ne (by decide), vu_ne (by decide), vu_eq]
theorem In_4 : Inear I F1 B1 F2 B2 al mks 137 4 = nI (pop (badS F1 B1 F2 B2 al mks)) := by
  unfold Inear Iwgh; rw [vu_eq, vu_ne (by decide), vu_eq]
theorem In_5 : Inear I F1 B1 F2 B2 al mks 137 5 = nI (twi F1 B1 F2 B2 / 2) := by
  unfold Inear Iwgh; rw [vu_eq, vu_eq]
theorem In_fr {a : Nat} (h : a < 137 ∨ 139 < a) : Inear I F1 B1 F2 B2 al mks a = I a := by
  unfold Inear Iwgh; rw [vu_ne (by omega), Ilrn_fr (by omega)]
end INR
theorem NA_137 : NA 137 := ⟨rfl, rfl, rfl, rfl, rfl⟩
theorem NA_149 : NA 149 := ⟨rfl, rfl, rfl, rfl, rfl⟩
theorem NA_166 : NA 166 := ⟨rfl, rfl, rfl, rfl, rfl⟩
theorem c_compare {X : Nat × (Nat → Int32)} {d : Nat} {I : Nat → Nat → Int32} {J : Nat → Nat → Int64} {W1 W2 F1 F2 al : Nat} {mks : Nat → Nat} (hd : 3 ≤ d) (hW1 : WG (mk I J) W1 F1) (hB1 : WB (I (W1 + 1)) (pop F1)) (hW2 : WG (mk I J) W2 F2) (hB2 : WB (I (W2 + 1)) (pop F2)) (d1 : W1 + 3 < 137 ∨ 139 < W1) (d2 : W2 + 3 < 137 ∨ 139 < W2) (hal : I 1 1 = nI al) (hal2 : al < 2) (hm : ∀ k, k < 24 → I 2 k = nI (mks k)) (hm4 : ∀ k, k < 24 → mks k < 4) :
    callF X d 127 [.ref 0, .ref W1, .ref W2] (mk I J) = some (none, mk (Inear I F1 (I (W1 + 1)) F2 (I (W2 + 1)) al mks) J) := by
  refine callF_at (by omega) (by decide) (Nat.le_of_ble_eq_true rfl) (fun d _ => ?_)
  show Ev X d 127 0 [.ref 0, .ref W1, .ref W2] [] ( mk I J) _
  have l := s_learn (X := X) (d := d) (by omega) NA_137 (by decide) hW1 (by omega) hB1 hal hal2 hm hm4
  have hW2' : WG (mk (Ilrn I 137 F1 (I (W1 + 1)) al mks) J) W2 F2 := WG_fr hW2 (fun a h1 h2 => Ilrn_fr (by omega)) rfl
  have e2 : Ilrn I 137 F1 (I (W1 + 1)) al mks (W2 + 1) = I (W2 + 1) := Ilrn_fr (by omega)
  have w := s_weigh (X := X) (d := d) (by omega) NA_137 (Ilrn_LN (I := I) (F := F1) (B := I (W1 + 1)) (al := al) (mks := mks)) hW2' (by omega) (by rw [e2]; exact hB2) hm4
  rw [e2] at w
  simp (disch := first | omega | assumption | exact rfl) only [U_127_0, XX, QQ, WW, KK, QX, SHs, RRs, Nat.reduceAdd, Nat.reduceMul, Nat.reduceLeDiff, Nat.reduceEqDiff, List.length_cons, List.length_nil, decide_true, decide_false, Bool.true_and, Bool.and_true, Bool.false_and, Bool.and_false, false_and, and_false, Bool.false_eq_true, Bool.true_eq_false, reduceCtorEq, eq_self, if_true, if_false, true_and, and_true, not_true_eq_false, not_false_eq_true, if_pos, if_neg, z_ite_not, false_or, or_false, true_or, or_true, SWs, swk_0, swk_1, l, w]
  rfl
theorem c_isBorne {X : Nat × (Nat → Int32)} {d : Nat} {I : Nat → Nat → Int32} {J : Nat → Nat → Int64} {x be : Nat} (hd : 1 ≤ d) (h4 : I 137 4 = nI x) (hx : x ≤ 64) (hbe : I 1 2 = nI be) (hbe2 : be ≤ 24) : callF X d 129 [.ref 0] (mk I J) = some (some (.int (bI (decide (x ≤ be)))), mk I J) := by
  refine callF_at (by omega) (by decide) (Nat.le_of_ble_eq_true rfl) (fun d _ => ?_)
  show Ev X d 129 0 [.ref 0] [] ( mk I J) _
  by_cases h : x ≤ be
  · simp (disch := first | omega | assumption | exact rfl) only [U_129_0, U_129_1, U_129_2, U_129_3, XX, QQ, WW, KK, QX, SHs, RRs, Nat.reduceAdd, Nat.reduceMul, Nat.reduceLeDiff, Nat.reduceEqDiff, List.length_cons, List.length_nil, decide_true, decide_false, Bool.true_and, Bool.and_true, Bool.false_and, Bool.and_false, false_and, and_false, Bool.false_eq_true, Bool.true_eq_false, reduceCtorEq, eq_self, if_true, if_false, true_and, and_true, not_true_eq_false, not_false_eq_true, if_pos, if_neg, z_ite_not, false_or, or_false, true_or, or_true, SWs, swk_0, swk_1, h4, hbe]
  · simp (disch := first | omega | assumption | exact rfl) only [U_129_0, U_129_1, U_129_2, U_129_3, XX, QQ, WW, KK, QX, SHs, RRs, Nat.reduceAdd, Nat.reduceMul, Nat.reduceLeDiff, Nat.reduceEqDiff, List.length_cons, List.length_nil, decide_true, decide_false, Bool.true_and, Bool.and_true, Bool.false_and, Bool.and_false, false_and, and_false, Bool.false_eq_true, Bool.true_eq_false, reduceCtorEq, eq_self, if_true, if_false, true_and, and_true, not_true_eq_false, not_false_eq_true, if_pos, if_neg, z_ite_not, false_or, or_false, true_or, or_true, SWs, swk_0, swk_1, h4, hbe]
theorem c_isGood {X : Nat × (Nat → Int32)} {d : Nat} {I : Nat → Nat → Int32} {J : Nat → Nat → Int64} {W1 W2 F1 F2 al be : Nat} {mks : Nat → Nat} (hd : 4 ≤ d) (hW1 : WG (mk I J) W1 F1) (hB1 : WB (I (W1 + 1)) (pop F1)) (hW2 : WG (mk I J) W2 F2) (hB2 : WB (I (W2 + 1)) (pop F2)) (d1 : W1 + 3 < 137 ∨ 139 < W1) (d2 : W2 + 3 < 137 ∨ 139 < W2) (hal : I 1 1 = nI al) (hal2 : al < 2) (hm : ∀ k, k < 24 → I 2 k = nI (mks k)) (hm4 : ∀ k, k < 24 → mks k < 4) (hbe : I 1 2 = nI be) (hbe2 : be ≤ 24) :
    callF X d 128 [.ref 0, .ref W1, .ref W2] (mk I J) = some (some (.int (bI (decide (pop (badS F1 (I (W1 + 1)) F2 (I (W2 + 1)) al mks) ≤ be)))), mk (Inear I F1 (I (W1 + 1)) F2 (I (W2 + 1)) al mks) J) := by
  refine callF_at (by omega) (by decide) (Nat.le_of_ble_eq_true rfl) (fun d _ => ?_)
  show Ev X d 128 0 [.ref 0, .ref W1, .ref W2] [] ( mk I J) _
  have c := c_compare (X := X) (d := d) (by omega) hW1 hB1 hW2 hB2 d1 d2 hal hal2 hm hm4
  have b := c_isBorne (X := X) (d := d) (J := J) (by omega) (In_4 (I := I) (F1 := F1) (B1 := I (W1 + 1)) (F2 := F2) (B2 := I (W2 + 1)) (al := al) (mks := mks)) (pop_le _) (by rw [In_fr (by omega)]; exact hbe) hbe2
  simp (disch := first | omega | assumption | exact rfl) only [U_128_0, XX, QQ, WW, KK, QX, SHs, RRs, Nat.reduceAdd, Nat.reduceMul, Nat.reduceLeDiff, Nat.reduceEqDiff, List.length_cons, List.length_nil, decide_true, decide_false, Bool.true_and, Bool.and_true, Bool.false_and, Bool.and_false, false_and, and_false, Bool.false_eq_true, Bool.true_eq_false, reduceCtorEq, eq_self, if_true, if_false, true_and, and_true, not_true_eq_false, not_false_eq_true, if_pos, if_neg, z_ite_not, false_or, or_false, true_or, or_true, SWs, swk_0, swk_1, c, b]
theorem FC_near {I : Nat → Nat → Int32} {J : Nat → Nat → Int64} {F1 F2 al : Nat} {B1 B2 : Nat → Int32} {mks : Nat → Nat} : FC I (Inear I F1 B1 F2 B2 al mks) J J := ⟨fun a _ => In_fr (by omega), fun _ _ => rfl⟩
theorem FR_cmp {I : Nat → Nat → Int32} {F1 F2 : Nat} {B1 B2 : Nat → Int32} : FR I (Icmp I F1 B1 F2 B2) := FR_of (fun a h1 h2 => by unfold Icmp; rw [vu_ne h2, vu_ne (by omega), vu_ne (by omega)]) (fun k hk => by unfold Icmp; rw [vu_eq, vu_ne (by omega), vu_ne (by omega)])
theorem b_good {X : Nat × (Nat → Int32)} {d : Nat} {I : Nat → Nat → Int32} {J : Nat → Nat → Int64} {u v w : Int32} (hd : 6 ≤ d) (h : Inv I J) : Both X d 126 214 [.int u, .int v, .int w] I J := by
  obtain ⟨FW, hw⟩ := Inv_wl h
  obtain ⟨_, al, be, yr, s1, s2, s3, s4, s5, s6, s7, s8, s9⟩ := Inv_sc h
  obtain ⟨mks, brk, hm⟩ := Inv_mk h
  rcases of_d u 5 6 rfl (by decide) with ⟨a, ha, rfl⟩ | ⟨o1, o2⟩
  · rcases of_d v 5 6 rfl (by decide) with ⟨b, hb, rfl⟩ | ⟨o1, o2⟩
    · rcases of_d w 3 4 rfl (by decide) with ⟨c, hc, rfl⟩ | ⟨o1, o2⟩
      · obtain ⟨hG1, hB1, hR1⟩ := hw a ha
        obtain ⟨hG2, hB2, hR2⟩ := hw b hb
        obtain ⟨B1, e1⟩ : ∃ B1, B1 = I (14 + 4 * a + 1) := ⟨_, rfl⟩
        obtain ⟨B2, e2⟩ : ∃ B2, B2 = I (14 + 4 * b + 1) := ⟨_, rfl⟩
        obtain ⟨bd, ebd⟩ : ∃ bd, bd = badS (FW a) B1 (FW b) B2 al mks := ⟨_, rfl⟩
        have bd1 : bd < 2 ^ 24 := by rw [ebd]; exact bs_lt _
        have bd2 := pop_le bd
        have cmp := fun d hd => c_compare (X := X) (d := d) (mks := mks) hd hG1 hB1 hG2 hB2 (by omega) (by omega) s4 s1 (fun k hk => (hm k hk).2.2.1) (fun k hk => (hm k hk).1)
        have rmp := fun d hd I1 (f : FC I I1 J J) => r_compares (X := X) (d := d) (J := J) (I := I1) hd ha hb (by rw [f.1 _ (by omega)]; exact hR1) hB1 (by rw [f.1 _ (by omega)]; exact hR2) hB2
        rw [← e1, ← e2] at cmp rmp
        have i3 := In_3 (I := I) (F1 := FW a) (B1 := B1) (F2 := FW b) (B2 := B2) (al := al) (mks := mks)
        have i4 := In_4 (I := I) (F1 := FW a) (B1 := B1) (F2 := FW b) (B2 := B2) (al := al) (mks := mks)
        have i5 := In_5 (I := I) (F1 := FW a) (B1 := B1) (F2 := FW b) (B2 := B2) (al := al) (mks := mks)
        have ib := fun d hd => c_isBorne (X := X) (d := d) (J := J) hd i4 (pop_le _) (by rw [In_fr (by omega)]; exact s6) s2
        rw [← ebd] at i3 i4 ib
        have rb := fun d hd I1 (f : FC I I1 J J) => r_badOnes (X := X) (d := d) (J := J) (I := Icmp I1 (FW a) B1 (FW b) B2) hd Icmp_NS (by rw [Icmp_178, f.1 _ (by omega)]; exact s5) s1 (by rw [Icmp_178, f.1 _ (by omega)]; exact (fun k hk => (hm k hk).2.2.2.1)) (fun k hk => (hm k hk).1)
        rw [bad_eq, ← ebd] at rb
        have rk := fun d hd I1 => r_keptOnes (X := X) (d := d) (J := J) (I := Icmp I1 (FW a) B1 (FW b) B2) hd Icmp_NS
        rw [kept_eq] at rk
        have hbe : ∀ I1, FC I I1 J J → Icmp I1 (FW a) B1 (FW b) B2 178 2 = nI be := fun I1 f => by rw [Icmp_178, f.1 _ (by omega)]; exact s7
        have fc := FC_near (I := I) (J := J) (F1 := FW a) (B1 := B1) (F2 := FW b) (B2 := B2) (al := al) (mks := mks)
        obtain rfl | rfl | rfl | rfl : c = 0 ∨ c = 1 ∨ c = 2 ∨ c = 3 := by omega
        · refine ⟨nI bd, Inear I (FW a) B1 (FW b) B2 al mks, J, Icmp (Inear I (FW a) B1 (FW b) B2 al mks) (FW a) B1 (FW b) B2, ?_, ?_, Inv_FR (Inv_FC h FC_near) FR_cmp⟩
          · refine callF_at (by omega) (by decide) (Nat.le_of_ble_eq_true rfl) (fun d _ => ?_)
            show Ev X d 126 0 [.ref 0, .int (nI a), .int (nI b), .int (nI 0)] [] ( mk I J) _
            have cmp := cmp d (by omega)
            simp (disch := first | omega | assumption | exact rfl) only [U_126_0, U_126_1, U_126_2, U_126_3, U_126_4, U_126_5, U_126_6, U_126_7, U_126_8, U_126_9, U_126_10, U_126_11, XX, QQ, WW, KK, QX, SHs, RRs, Nat.reduceAdd, Nat.reduceMul, Nat.reduceLeDiff, Nat.reduceEqDiff, List.length_cons, List.length_nil, decide_true, decide_false, Bool.true_and, Bool.and_true, Bool.false_and, Bool.and_false, false_and, and_false, Bool.false_eq_true, Bool.true_eq_false, reduceCtorEq, eq_self, if_true, if_false, true_and, and_true, not_true_eq_false, not_false_eq_true, if_pos, if_neg, z_ite_not, false_or, or_false, true_or, or_true, SWs, swk_0, swk_1, s_isOf, WLs, cmp, i3]
          · refine callF_at (by omega) (by decide) (Nat.le_of_ble_eq_true rfl) (fun d _ => ?_)
            show Ev X d 214 0 [.ref 177, .int (nI a), .int (nI b), .int (nI 0), .retAddr 0] [] ( mk (Inear I (FW a) B1 (FW b) B2 al mks) J) _
            have rmp := rmp d (by omega) _ fc
            have rb := rb d (by omega) _ fc
            simp (disch := first | omega | assumption | exact rfl) only [U_214_0, U_214_1, U_214_2, U_214_3, U_214_4, U_214_5, U_214_6, U_214_7, U_214_8, U_214_9, U_214_10, U_214_11, U_214_12, U_214_13, XX, QQ, WW, KK, QX, SHs, RRs, Nat.reduceAdd, Nat.reduceMul, Nat.reduceLeDiff, Nat.reduceEqDiff, List.length_cons, List.length_nil, decide_true, decide_false, Bool.true_and, Bool.and_true, Bool.false_and, Bool.and_false, false_and, and_false, Bool.false_eq_true, Bool.true_eq_false, reduceCtorEq, eq_self, if_true, if_false, true_and, and_true, not_true_eq_false, not_false_eq_true, if_pos, if_neg, z_ite_not, false_or, or_false, true_or, or_true, SWs, swk_0, swk_1, r_isWall, r_isIn, rmp, rb]
        · refine ⟨nI (pop bd), Inear I (FW a) B1 (FW b) B2 al mks, J, Icmp (Inear I (FW a) B1 (FW b) B2 al mks) (FW a) B1 (FW b) B2, ?_, ?_, Inv_FR (Inv_FC h FC_near) FR_cmp⟩
          · refine callF_at (by omega) (by decide) (Nat.le_of_ble_eq_true rfl) (fun d _ => ?_)
            show Ev X d 126 0 [.ref 0, .int (nI a), .int (nI b), .int (nI 1)] [] ( mk I J) _
            have cmp := cmp d (by omega)
            simp (disch := first | omega | assumption | exact rfl) only [U_126_0, U_126_1, U_126_2, U_126_3, U_126_4, U_126_5, U_126_6, U_126_7, U_126_8, U_126_9, U_126_10, U_126_11, XX, QQ, WW, KK, QX, SHs, RRs, Nat.reduceAdd, Nat.reduceMul, Nat.reduceLeDiff, Nat.reduceEqDiff, List.length_cons, List.length_nil, decide_true, decide_false, Bool.true_and, Bool.and_true, Bool.false_and, Bool.and_false, false_and, and_false, Bool.false_eq_true, Bool.true_eq_false, reduceCtorEq, eq_self, if_true, if_false, true_and, and_true, not_true_eq_false, not_false_eq_true, if_pos, if_neg, z_ite_not, false_or, or_false, true_or, or_true, SWs, swk_0, swk_1, s_isOf, WLs, cmp, i4]
          · refine callF_at (by omega) (by decide) (Nat.le_of_ble_eq_true rfl) (fun d _ => ?_)
            show Ev X d 214 0 [.ref 177, .int (nI a), .int (nI b), .int (nI 1), .retAddr 0] [] ( mk (Inear I (FW a) B1 (FW b) B2 al mks) J) _
            have rmp := rmp d (by omega) _ fc
            have rb := rb d (by omega) _ fc
            simp (disch := first | omega | assumption | exact rfl) only [U_214_0, U_214_1, U_214_2, U_214_3, U_214_4, U_214_5, U_214_6, U_214_7, U_214_8, U_214_9, U_214_10, U_214_11, U_214_12, U_214_13, XX, QQ, WW, KK, QX, SHs, RRs, Nat.reduceAdd, Nat.reduceMul, Nat.reduceLeDiff, Nat.reduceEqDiff, List.length_cons, List.length_nil, decide_true, decide_false, Bool.true_and, Bool.and_true, Bool.false_and, Bool.and_false, false_and, and_false, Bool.false_eq_true, Bool.true_eq_false, reduceCtorEq, eq_self, if_true, if_false, true_and, and_true, not_true_eq_false, not_false_eq_true, if_pos, if_neg, z_ite_not, false_or, or_false, true_or, or_true, SWs, swk_0, swk_1, r_isWall, r_isIn, rmp, rb, r_count]
        · refine ⟨nI (twi (FW a) B1 (FW b) B2 / 2), Inear I (FW a) B1 (FW b) B2 al mks, J, Icmp (Inear I (FW a) B1 (FW b) B2 al mks) (FW a) B1 (FW b) B2, ?_, ?_, Inv_FR (Inv_FC h FC_near) FR_cmp⟩
          · refine callF_at (by omega) (by decide) (Nat.le_of_ble_eq_true rfl) (fun d _ => ?_)
            show Ev X d 126 0 [.ref 0, .int (nI a), .int (nI b), .int (nI 2)] [] ( mk I J) _
            have cmp := cmp d (by omega)
            simp (disch := first | omega | assumption | exact rfl) only [U_126_0, U_126_1, U_126_2, U_126_3, U_126_4, U_126_5, U_126_6, U_126_7, U_126_8, U_126_9, U_126_10, U_126_11, XX, QQ, WW, KK, QX, SHs, RRs, Nat.reduceAdd, Nat.reduceMul, Nat.reduceLeDiff, Nat.reduceEqDiff, List.length_cons, List.length_nil, decide_true, decide_false, Bool.true_and, Bool.and_true, Bool.false_and, Bool.and_false, false_and, and_false, Bool.false_eq_true, Bool.true_eq_false, reduceCtorEq, eq_self, if_true, if_false, true_and, and_true, not_true_eq_false, not_false_eq_true, if_pos, if_neg, z_ite_not, false_or, or_false, true_or, or_true, SWs, swk_0, swk_1, s_isOf, WLs, cmp, i5]
          · refine callF_at (by omega) (by decide) (Nat.le_of_ble_eq_true rfl) (fun d _ => ?_)
            show Ev X d 214 0 [.ref 177, .int (nI a), .int (nI b), .int (nI 2), .retAddr 0] [] ( mk (Inear I (FW a) B1 (FW b) B2 al mks) J) _
            have rmp := rmp d (by omega) _ fc
            have rb := rb d (by omega) _ fc
            have rk := rk d (by omega) (Inear I (FW a) B1 (FW b) B2 al mks)
            simp (disch := first | omega | assumption | exact rfl) only [U_214_0, U_214_1, U_214_2, U_214_3, U_214_4, U_214_5, U_214_6, U_214_7, U_214_8, U_214_9, U_214_10, U_214_11, U_214_12, U_214_13, XX, QQ, WW, KK, QX, SHs, RRs, Nat.reduceAdd, Nat.reduceMul, Nat.reduceLeDiff, Nat.reduceEqDiff, List.length_cons, List.length_nil, decide_true, decide_false, Bool.true_and, Bool.and_true, Bool.false_and, Bool.and_false, false_and, and_false, Bool.false_eq_true, Bool.true_eq_false, reduceCtorEq, eq_self, if_true, if_false, true_and, and_true, not_true_eq_false, not_false_eq_true, if_pos, if_neg, z_ite_not, false_or, or_false, true_or, or_true, SWs, swk_0, swk_1, r_isWall, r_isIn, rmp, rb, rk]
        · refine ⟨bI (decide (pop bd ≤ be)), Inear I (FW a) B1 (FW b) B2 al mks, J, Icmp (Inear I (FW a) B1 (FW b) B2 al mks) (FW a) B1 (FW b) B2, ?_, ?_, Inv_FR (Inv_FC h FC_near) FR_cmp⟩
          · refine callF_at (by omega) (by decide) (Nat.le_of_ble_eq_true rfl) (fun d _ => ?_)
            show Ev X d 126 0 [.ref 0, .int (nI a), .int (nI b), .int (nI 3)] [] ( mk I J) _
            have cmp := cmp d (by omega)
            have ib := ib d (by omega)
            by_cases z : pop bd ≤ be
            · simp (disch := first | omega | assumption | exact rfl) only [U_126_0, U_126_1, U_126_2, U_126_3, U_126_4, U_126_5, U_126_6, U_126_7, U_126_8, U_126_9, U_126_10, U_126_11, XX, QQ, WW, KK, QX, SHs, RRs, Nat.reduceAdd, Nat.reduceMul, Nat.reduceLeDiff, Nat.reduceEqDiff, List.length_cons, List.length_nil, decide_true, decide_false, Bool.true_and, Bool.and_true, Bool.false_and, Bool.and_false, false_and, and_false, Bool.false_eq_true, Bool.true_eq_false, reduceCtorEq, eq_self, if_true, if_false, true_and, and_true, not_true_eq_false, not_false_eq_true, if_pos, if_neg, z_ite_not, false_or, or_false, true_or, or_true, SWs, swk_0, swk_1, s_isOf, WLs, cmp, ib]
            · simp (disch := first | omega | assumption | exact rfl) only [U_126_0, U_126_1, U_126_2, U_126_3, U_126_4, U_126_5, U_126_6, U_126_7, U_126_8, U_126_9, U_126_10, U_126_11, XX, QQ, WW, KK, QX, SHs, RRs, Nat.reduceAdd, Nat.reduceMul, Nat.reduceLeDiff, Nat.reduceEqDiff, List.length_cons, List.length_nil, decide_true, decide_false, Bool.true_and, Bool.and_true, Bool.false_and, Bool.and_false, false_and, and_false, Bool.false_eq_true, Bool.true_eq_false, reduceCtorEq, eq_self, if_true, if_false, true_and, and_true, not_true_eq_false, not_false_eq_true, if_pos, if_neg, z_ite_not, false_or, or_false, true_or, or_true, SWs, swk_0, swk_1, s_isOf, WLs, cmp, ib]
          · refine callF_at (by omega) (by decide) (Nat.le_of_ble_eq_true rfl) (fun d _ => ?_)
            show Ev X d 214 0 [.ref 177, .int (nI a), .int (nI b), .int (nI 3), .retAddr 0] [] ( mk (Inear I (FW a) B1 (FW b) B2 al mks) J) _
            have rmp := rmp d (by omega) _ fc
            have rb := rb d (by omega) _ fc
            have hbe := hbe _ fc
            by_cases z : pop bd ≤ be
            · simp (disch := first | omega | assumption | exact rfl) only [U_214_0, U_214_1, U_214_2, U_214_3, U_214_4, U_214_5, U_214_6, U_214_7, U_214_8, U_214_9, U_214_10, U_214_11, U_214_12, U_214_13, XX, QQ, WW, KK, QX, SHs, RRs, Nat.reduceAdd, Nat.reduceMul, Nat.reduceLeDiff, Nat.reduceEqDiff, List.length_cons, List.length_nil, decide_true, decide_false, Bool.true_and, Bool.and_true, Bool.false_and, Bool.and_false, false_and, and_false, Bool.false_eq_true, Bool.true_eq_false, reduceCtorEq, eq_self, if_true, if_false, true_and, and_true, not_true_eq_false, not_false_eq_true, if_pos, if_neg, z_ite_not, false_or, or_false, true_or, or_true, SWs, swk_0, swk_1, r_isWall, r_isIn, rmp, rb, r_count, hbe]
            · simp (disch := first | omega | assumption | exact rfl) only [U_214_0, U_214_1, U_214_2, U_214_3, U_214_4, U_214_5, U_214_6, U_214_7, U_214_8, U_214_9, U_214_10, U_214_11, U_214_12, U_214_13, XX, QQ, WW, KK, QX, SHs, RRs, Nat.reduceAdd, Nat.reduceMul, Nat.reduceLeDiff, Nat.reduceEqDiff, List.length_cons, List.length_nil, decide_true, decide_false, Bool.true_and, Bool.and_true, Bool.false_and, Bool.and_false, false_and, and_false, Bool.false_eq_true, Bool.true_eq_false, reduceCtorEq, eq_self, if_true, if_false, true_and, and_true, not_true_eq_false, not_false_eq_true, if_pos, if_neg, z_ite_not, false_or, or_false, true_or, or_true, SWs, swk_0, swk_1, r_isWall, r_isIn, rmp, rb, r_count, hbe]
      · refine Both_0 (-2) h ?_ ?_
        · refine callF_at (by omega) (by decide) (Nat.le_of_ble_eq_true rfl) (fun d _ => ?_)
          show Ev X d 126 0 [.ref 0, .int (nI a), .int (nI b), .int w] [] ( mk I J) _
          simp (disch := first | omega | assumption | exact rfl) only [U_126_0, U_126_1, U_126_2, U_126_3, XX, QQ, WW, KK, QX, SHs, RRs, Nat.reduceAdd, Nat.reduceMul, Nat.reduceLeDiff, Nat.reduceEqDiff, List.length_cons, List.length_nil, decide_true, decide_false, Bool.true_and, Bool.and_true, Bool.false_and, Bool.and_false, false_and, and_false, Bool.false_eq_true, Bool.true_eq_false, reduceCtorEq, eq_self, if_true, if_false, true_and, and_true, not_true_eq_false, not_false_eq_true, if_pos, if_neg, z_ite_not, false_or, or_false, true_or, or_true, SWs, swk_0, swk_1, s_isOf, o1]
        · refine callF_at (by omega) (by decide) (Nat.le_of_ble_eq_true rfl) (fun d _ => ?_)
          show Ev X d 214 0 [.ref 177, .int (nI a), .int (nI b), .int w, .retAddr 0] [] ( mk I J) _
          simp (disch := first | omega | assumption | exact rfl) only [U_214_0, U_214_1, U_214_2, U_214_3, XX, QQ, WW, KK, QX, SHs, RRs, Nat.reduceAdd, Nat.reduceMul, Nat.reduceLeDiff, Nat.reduceEqDiff, List.length_cons, List.length_nil, decide_true, decide_false, Bool.true_and, Bool.and_true, Bool.false_and, Bool.and_false, false_and, and_false, Bool.false_eq_true, Bool.true_eq_false, reduceCtorEq, eq_self, if_true, if_false, true_and, and_true, not_true_eq_false, not_false_eq_true, if_pos, if_neg, z_ite_not, false_or, or_false, true_or, or_true, SWs, swk_0, swk_1, r_isWall, r_isIn, o2]
    · refine Both_0 (-2) h ?_ ?_
      · refine callF_at (by omega) (by decide) (Nat.le_of_ble_eq_true rfl) (fun d _ => ?_)
        show Ev X d 126 0 [.ref 0, .int (nI a), .int v, .int w] [] ( mk I J) _
        simp (disch := first | omega | assumption | exact rfl) only [U_126_0, U_126_1, U_126_2, U_126_3, XX, QQ, WW, KK, QX, SHs, RRs, Nat.reduceAdd, Nat.reduceMul, Nat.reduceLeDiff, Nat.reduceEqDiff, List.length_cons, List.length_nil, decide_true, decide_false, Bool.true_and, Bool.and_true, Bool.false_and, Bool.and_false, false_and, and_false, Bool.false_eq_true, Bool.true_eq_false, reduceCtorEq, eq_self, if_true, if_false, true_and, and_true, not_true_eq_false, not_false_eq_true, if_pos, if_neg, z_ite_not, false_or, or_false, true_or, or_true, SWs, swk_0, swk_1, s_isOf, o1]
      · refine callF_at (by omega) (by decide) (Nat.le_of_ble_eq_true rfl) (fun d _ => ?_)
        show Ev X d 214 0 [.ref 177, .int (nI a), .int v, .int w, .retAddr 0] [] ( mk I J) _
        simp (disch := first | omega | assumption | exact rfl) only [U_214_0, U_214_1, U_214_2, U_214_3, XX, QQ, WW, KK, QX, SHs, RRs, Nat.reduceAdd, Nat.reduceMul, Nat.reduceLeDiff, Nat.reduceEqDiff, List.length_cons, List.length_nil, decide_true, decide_false, Bool.true_and, Bool.and_true, Bool.false_and, Bool.and_false, false_and, and_false, Bool.false_eq_true, Bool.true_eq_false, reduceCtorEq, eq_self, if_true, if_false, true_and, and_true, not_true_eq_false, not_false_eq_true, if_pos, if_neg, z_ite_not, false_or, or_false, true_or, or_true, SWs, swk_0, swk_1, r_isWall, r_isIn, o2]
  · refine Both_0 (-2) h ?_ ?_
    · refine callF_at (by omega) (by decide) (Nat.le_of_ble_eq_true rfl) (fun d _ => ?_)
      show Ev X d 126 0 [.ref 0, .int u, .int v, .int w] [] ( mk I J) _
      simp (disch := first | omega | assumption | exact rfl) only [U_126_0, U_126_1, U_126_2, U_126_3, XX, QQ, WW, KK, QX, SHs, RRs, Nat.reduceAdd, Nat.reduceMul, Nat.reduceLeDiff, Nat.reduceEqDiff, List.length_cons, List.length_nil, decide_true, decide_false, Bool.true_and, Bool.and_true, Bool.false_and, Bool.and_false, false_and, and_false, Bool.false_eq_true, Bool.true_eq_false, reduceCtorEq, eq_self, if_true, if_false, true_and, and_true, not_true_eq_false, not_false_eq_true, if_pos, if_neg, z_ite_not, false_or, or_false, true_or, or_true, SWs, swk_0, swk_1, s_isOf, o1]
    · refine callF_at (by omega) (by decide) (Nat.le_of_ble_eq_true rfl) (fun d _ => ?_)
      show Ev X d 214 0 [.ref 177, .int u, .int v, .int w, .retAddr 0] [] ( mk I J) _
      simp (disch := first | omega | assumption | exact rfl) only [U_214_0, U_214_1, U_214_2, U_214_3, XX, QQ, WW, KK, QX, SHs, RRs, Nat.reduceAdd, Nat.reduceMul, Nat.reduceLeDiff, Nat.reduceEqDiff, List.length_cons, List.length_nil, decide_true, decide_false, Bool.true_and, Bool.and_true, Bool.false_and, Bool.and_false, false_and, and_false, Bool.false_eq_true, Bool.true_eq_false, reduceCtorEq, eq_self, if_true, if_false, true_and, and_true, not_true_eq_false, not_false_eq_true, if_pos, if_neg, z_ite_not, false_or, or_false, true_or, or_true, SWs, swk_0, swk_1, r_isWall, r_isIn, o2]
