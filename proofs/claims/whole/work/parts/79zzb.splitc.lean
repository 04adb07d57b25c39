/-! ===== parting: the class's splits ===== -/
theorem lc_eq {x y : Int64} : lg_cmp x y = 0 ↔ x = y := by
  unfold lg_cmp
  constructor
  · intro h
    split at h
    · exact absurd h (by decide)
    · split at h
      · assumption
      · exact absurd h (by decide)
  · intro h
    subst h
    rw [if_neg (Int64.lt_irrefl), if_pos rfl]
theorem lN_e64 {a b : Nat} (ha : a < 2 ^ 64) (hb : b < 2 ^ 64) : lN a = lN b ↔ a = b := by
  constructor
  · intro h
    have h1 : (BitVec.ofNat 64 a).toNat = (BitVec.ofNat 64 b).toNat := congrArg (fun x : Int64 => x.toBitVec.toNat) h
    rw [BitVec.toNat_ofNat, BitVec.toNat_ofNat, Nat.mod_eq_of_lt ha, Nat.mod_eq_of_lt hb] at h1
    exact h1
  · rintro rfl; rfl
theorem lc_z {a : Nat} (ha : a < 2 ^ 64) : lg_cmp (lN a) (lN 0) = 0 ↔ a = 0 := by rw [lc_eq, lN_e64 ha (by decide)]
/-- what the table keeps is right -/
def MI (v : Nat → Nat) (I : Nat → Nat → Int32) (J : Nat → Nat → Int64) : Prop := ∀ s, s < 8192 → ∀ R, R ≠ 0 → R < 2 ^ 64 → J 159 s = lN R → I 160 s = nI (v R)
def PF (I I' : Nat → Nat → Int32) (J J' : Nat → Nat → Int64) : Prop := (∀ a, a ≠ 160 → I' a = I a) ∧ (∀ a, a ≠ 159 → J' a = J a)
theorem PF_r {I : Nat → Nat → Int32} {J : Nat → Nat → Int64} : PF I I J J := ⟨fun _ _ => rfl, fun _ _ => rfl⟩
theorem PF_t {I I' I'' : Nat → Nat → Int32} {J J' J'' : Nat → Nat → Int64} (h : PF I I' J J') (h2 : PF I' I'' J' J'') : PF I I'' J J'' := ⟨fun a x => (h2.1 a x).trans (h.1 a x), fun a x => (h2.2 a x).trans (h.2 a x)⟩
theorem c_keep {X : Nat × (Nat → Int32)} {d : Nat} {I : Nat → Nat → Int32} {J : Nat → Nat → Int64} {v : Nat → Nat} {R : Nat} (hd : 3 ≤ d) (hR : R < 2 ^ 64) (hM : MI v I J) : ∃ I' J', callF X d 47 [.ref 158, .long (lN R), .int (nI (v R))] (mk I J) = some (none, mk I' J') ∧ MI v I' J' ∧ PF I I' J J' := by
  obtain ⟨d, rfl⟩ : ∃ d', d = d' + 1 := ⟨d - 1, by omega⟩
  obtain ⟨sl, h1, h2⟩ := c_slotOf (X := X) (d := d) (I := I) (J := J) (R := R) (by omega) hR
  refine ⟨va_up I 160 (va_up (I 160) sl (nI (v R))), va_up J 159 (va_up (J 159) sl (lN R)), ?_, fun s hs R' n0 hR' e => ?_, ⟨fun a ha => vu_ne ha, fun a ha => vu_ne ha⟩⟩
  · refine callF_at (by omega) (by decide) (Nat.le_of_ble_eq_true rfl) (fun d' hd' => ?_)
    obtain rfl : d = d' := by omega
    show Ev X d 47 0 [.ref 158, .long (lN R), .retAddr 0, .int (nI (v R)), .retAddr 0] [] (mk I J) _
    simp (disch := first | omega | assumption | exact rfl) only [U_47_0, XX, QQ, WW, KK, QX, SHs, RRs, Nat.reduceAdd, Nat.reduceMul, Nat.reduceLeDiff, Nat.reduceEqDiff, List.length_cons, List.length_nil, decide_true, decide_false, Bool.true_and, Bool.and_true, Bool.false_and, Bool.and_false, false_and, and_false, Bool.false_eq_true, Bool.true_eq_false, reduceCtorEq, eq_self, if_true, if_false, true_and, and_true, not_true_eq_false, not_false_eq_true, if_pos, if_neg, z_ite_not, false_or, or_false, true_or, or_true, SWs, swk_0, swk_1, h2]
  · rw [vu_eq] at e ⊢
    by_cases z : s = sl
    · subst z
      rw [vu_eq] at e ⊢
      rw [(lN_e64 hR hR').mp e]
    · rw [vu_ne z] at e ⊢
      exact hM s hs R' n0 hR' e
theorem sh1 {V : Nat} : nI V <<< (nI 1 &&& 31) = nI (V * 2) := by
  have e : (nI 1 &&& 31 : Int32) = 1 := by decide +kernel
  rw [e]
  refine Int32.toBitVec_inj.mp ?_
  rw [Int32.toBitVec_shiftLeft]
  show BitVec.ofNat 32 V <<< (BitVec.smod (1 : Int32).toBitVec 32) = BitVec.ofNat 32 (V * 2)
  have e2 : BitVec.smod (1 : Int32).toBitVec 32 = 1#32 := by decide
  rw [e2]
  apply BitVec.eq_of_toNat_eq
  simp [BitVec.toNat_shiftLeft, Nat.shiftLeft_eq]
theorem c_along {X : Nat × (Nat → Int32)} {d : Nat} {I : Nat → Nat → Int32} {J : Nat → Nat → Int64} {v : Nat → Nat} {R p S T dep n : Nat} (hR : R < 2 ^ 64) (hp : R.testBit p = true) (hS : S < 2 ^ 64) (hT : T < 2 ^ 64) (hS1 : S = 0 ∨ ∃ q, S = 2 ^ q) (hpS : S.testBit p = false) (hv : ∀ R, v R < 2 ^ 25) (hd : 2 ≤ d) (hdep : dep < 24) (hn : pop R ≤ n + 2) (hM : MI v I J)
    (IH : ∀ R' (I : Nat → Nat → Int32) (J : Nat → Nat → Int64), R' < 2 ^ 64 → pop R' ≤ n → MI v I J → ∃ I' J', callF X (d - 1) 44 [.ref 158, .long (lN R'), .int (nI (dep + 1))] (mk I J) = some (some (.int (nI (v R'))), mk I' J') ∧ MI v I' J' ∧ PF I I' J J') :
    ∃ I' J', callF X d 45 [.ref 158, .long (lN R), .long (lN (2 ^ p)), .long (lN S), .long (lN T), .int (nI dep)] (mk I J) = some (some (.int (nI (alg v R (2 ^ p) S T))), mk I' J') ∧ MI v I' J' ∧ PF I I' J J' := by
  obtain ⟨d, rfl⟩ : ∃ d', d = d' + 1 := ⟨d - 1, by omega⟩
  rw [Nat.add_sub_cancel] at IH
  have p64 := tb_lt hR hp
  have aS : R &&& S < 2 ^ 64 := Nat.lt_of_le_of_lt Nat.and_le_left hR
  have aT : R &&& T < 2 ^ 64 := Nat.lt_of_le_of_lt Nat.and_le_left hR
  have hP : 2 ^ p < 2 ^ 64 := pw_lt p64
  have e1 := rmS_l hR hP
  have e2 := rmS_l (R := rmS R (2 ^ p)) (Q := S) rmS_lt hS
  have e3 := rmS_l (R := rmS (rmS R (2 ^ p)) S) (Q := T) rmS_lt hT
  by_cases z : R &&& S = 0
  · have ea : alg v R (2 ^ p) S T = 0 := by unfold alg; rw [if_pos z]
    rw [ea]
    refine ⟨I, J, ?_, hM, PF_r⟩
    refine callF_at (by omega) (by decide) (Nat.le_of_ble_eq_true rfl) (fun d' hd' => ?_)
    obtain rfl : d = d' := by omega
    show Ev X d 45 0 [.ref 158, .long (lN R), .retAddr 0, .long (lN (2 ^ p)), .retAddr 0, .long (lN S), .retAddr 0, .long (lN T), .retAddr 0, .int (nI dep), .retAddr 0] [] (mk I J) _
    have zz := (lc_z aS).mpr z
    simp (disch := first | omega | assumption | exact rfl) only [U_45_0, U_45_1, XX, QQ, WW, KK, QX, SHs, RRs, Nat.reduceAdd, Nat.reduceMul, Nat.reduceLeDiff, Nat.reduceEqDiff, List.length_cons, List.length_nil, decide_true, decide_false, Bool.true_and, Bool.and_true, Bool.false_and, Bool.and_false, false_and, and_false, Bool.false_eq_true, Bool.true_eq_false, reduceCtorEq, eq_self, if_true, if_false, true_and, and_true, not_true_eq_false, not_false_eq_true, if_pos, if_neg, z_ite_not, false_or, or_false, true_or, or_true, SWs, swk_0, swk_1, fb_andL, zz]
  · obtain ⟨q, eq, hq⟩ := pw1 hR hS1 z
    have nz : ¬ lg_cmp (lN (R &&& S)) (lN 0) = 0 := fun t => z ((lc_z aS).mp t)
    have qp : q ≠ p := fun t => by rw [eq, t, Nat.testBit_two_pow] at hpS; simp at hpS
    have p1 := rmS_pop hR hp
    have hq' : (rmS R (2 ^ p)).testBit q = true := (rmS_tb hR).mpr ⟨hq, by rw [Nat.testBit_two_pow]; exact decide_eq_false (fun t => qp t.symm)⟩
    have p2 := rmS_pop (R := rmS R (2 ^ p)) rmS_lt hq'
    rw [← eq] at p2
    obtain ⟨I1, J1, t1, t2, t3⟩ := IH (rmS (rmS R (2 ^ p)) S) I J rmS_lt (by omega) hM
    have v1 := hv (rmS (rmS R (2 ^ p)) S)
    by_cases y : R &&& T = 0
    · have ea : alg v R (2 ^ p) S T = v (rmS (rmS R (2 ^ p)) S) * 2 := by unfold alg; rw [if_neg z, if_pos y, Nat.or_zero]
      rw [ea]
      refine ⟨I1, J1, ?_, t2, t3⟩
      refine callF_at (by omega) (by decide) (Nat.le_of_ble_eq_true rfl) (fun d' hd' => ?_)
      obtain rfl : d = d' := by omega
      show Ev X d 45 0 [.ref 158, .long (lN R), .retAddr 0, .long (lN (2 ^ p)), .retAddr 0, .long (lN S), .retAddr 0, .long (lN T), .retAddr 0, .int (nI dep), .retAddr 0] [] (mk I J) _
      have zz := (lc_z aT).mpr y
      obtain ⟨V, eV⟩ : ∃ V, V = v (rmS (rmS R (2 ^ p)) S) := ⟨_, rfl⟩
      rw [← eV] at t1 v1 ⊢
      simp (disch := first | omega | assumption | exact rfl) only [U_45_0, U_45_2, U_45_4, XX, QQ, WW, KK, QX, SHs, RRs, Nat.reduceAdd, Nat.reduceMul, Nat.reduceLeDiff, Nat.reduceEqDiff, List.length_cons, List.length_nil, decide_true, decide_false, Bool.true_and, Bool.and_true, Bool.false_and, Bool.and_false, false_and, and_false, Bool.false_eq_true, Bool.true_eq_false, reduceCtorEq, eq_self, if_true, if_false, true_and, and_true, not_true_eq_false, not_false_eq_true, if_pos, if_neg, z_ite_not, false_or, or_false, true_or, or_true, SWs, swk_0, swk_1, nz, e1, e2, t1, fb_andL, zz, sh1]
    · have ny : ¬ lg_cmp (lN (R &&& T)) (lN 0) = 0 := fun t => y ((lc_z aT).mp t)
      have p3 : pop (rmS (rmS (rmS R (2 ^ p)) S) T) ≤ pop (rmS (rmS R (2 ^ p)) S) := fb_ct_sub (fun k _ h => ((rmS_tb rmS_lt).mp h).1)
      obtain ⟨I2, J2, w1, w2, w3⟩ := IH (rmS (rmS (rmS R (2 ^ p)) S) T) I1 J1 rmS_lt (by omega) t2
      have v2 := hv (rmS (rmS (rmS R (2 ^ p)) S) T)
      have ea : alg v R (2 ^ p) S T = v (rmS (rmS R (2 ^ p)) S) * 2 ||| v (rmS (rmS (rmS R (2 ^ p)) S) T) := by unfold alg; rw [if_neg z, if_neg y]
      rw [ea]
      refine ⟨I2, J2, ?_, w2, PF_t t3 w3⟩
      refine callF_at (by omega) (by decide) (Nat.le_of_ble_eq_true rfl) (fun d' hd' => ?_)
      obtain rfl : d = d' := by omega
      show Ev X d 45 0 [.ref 158, .long (lN R), .retAddr 0, .long (lN (2 ^ p)), .retAddr 0, .long (lN S), .retAddr 0, .long (lN T), .retAddr 0, .int (nI dep), .retAddr 0] [] (mk I J) _
      obtain ⟨V, eV⟩ : ∃ V, V = v (rmS (rmS R (2 ^ p)) S) := ⟨_, rfl⟩
      obtain ⟨V2, eV2⟩ : ∃ V2, V2 = v (rmS (rmS (rmS R (2 ^ p)) S) T) := ⟨_, rfl⟩
      rw [← eV] at t1 v1 ⊢
      rw [← eV2] at w1 v2 ⊢
      simp (disch := first | omega | assumption | exact rfl) only [U_45_0, U_45_2, U_45_3, U_45_4, XX, QQ, WW, KK, QX, SHs, RRs, Nat.reduceAdd, Nat.reduceMul, Nat.reduceLeDiff, Nat.reduceEqDiff, List.length_cons, List.length_nil, decide_true, decide_false, Bool.true_and, Bool.and_true, Bool.false_and, Bool.and_false, false_and, and_false, Bool.false_eq_true, Bool.true_eq_false, reduceCtorEq, eq_self, if_true, if_false, true_and, and_true, not_true_eq_false, not_false_eq_true, if_pos, if_neg, z_ite_not, false_or, or_false, true_or, or_true, SWs, swk_0, swk_1, nz, e1, e2, e3, t1, w1, fb_andL, ny, sh1, fa_or]
