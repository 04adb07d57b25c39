/-! ===== pairs: the reference walks ===== -/
def ixM (mem : Nat → Bool) (v : Nat) : Int32 := if v = 0 then -1 else nI (fb_ct mem (v - 1))
def rwM (F : Nat) (mem : Nat → Bool) (mt : Nat → Nat) (g : Nat → Int32) : Nat → Int32 := fun m => if m < fb_ct mem (pop F) then ixM mem (mt (kth mem (pop F) m)) else g m
theorem ixM_m {mem : Nat → Bool} {v : Nat} (hv : v < 2 ^ 30) : ixM mem v = -1 ↔ v = 0 := by
  unfold ixM
  constructor
  · intro h
    by_cases z : v = 0
    · exact z
    · rw [if_neg z] at h
      have := fb_ct_le mem (v - 1)
      exact absurd h (nI_ne (by omega))
  · intro h; rw [if_pos h]
theorem rwM_s {F : Nat} {mem : Nat → Bool} {mt : Nat → Nat} {g : Nat → Int32} {m j : Nat} (hj : j < fb_ct mem (pop F)) (hm : m < j) : va_up (va_up (rwM F mem mt g) m (nI j)) j (nI m) = rwM F mem (va_up (va_up mt (kth mem (pop F) m) (kth mem (pop F) j + 1)) (kth mem (pop F) j) (kth mem (pop F) m + 1)) g := by
  have kj := kth_spec hj
  have km := kth_spec (p := mem) (N := pop F) (n := m) (by omega)
  have kl := kth_mono hm hj
  funext k
  by_cases k1 : k = j
  · subst k1
    rw [vu_eq]
    unfold rwM
    rw [if_pos hj, vu_eq]
    unfold ixM
    rw [if_neg (by omega), Nat.add_sub_cancel, km.2.2]
  · rw [vu_ne k1]
    by_cases k2 : k = m
    · subst k2
      rw [vu_eq]
      unfold rwM
      rw [if_pos (by omega), vu_ne (by omega), vu_eq]
      unfold ixM
      rw [if_neg (by omega), Nat.add_sub_cancel, kj.2.2]
    · rw [vu_ne k2]
      unfold rwM
      by_cases k3 : k < fb_ct mem (pop F)
      · have kk := kth_spec k3
        have n1 : kth mem (pop F) k ≠ kth mem (pop F) j := fun e => by rw [e, kj.2.2] at kk; omega
        have n2 : kth mem (pop F) k ≠ kth mem (pop F) m := fun e => by rw [e, km.2.2] at kk; omega
        rw [if_pos k3, if_pos k3, vu_ne n1, vu_ne n2]
      · rw [if_neg k3, if_neg k3]
theorem kth_tt {N m : Nat} (h : m < N) : kth (fun _ => true) N m = m := by
  have e : ∀ n, fb_ct (fun _ => true) n = n := fun n => fb_ct_all.mpr (fun _ _ => rfl)
  have := kth_ct (p := fun _ => true) (N := N) (i := m) h rfl
  rw [e] at this; exact this
theorem r_couples {X : Nat × (Nat → Int32)} {d : Nat} {I : Nat → Nat → Int32} {J : Nat → Nat → Int64} {F s a e n : Nat} {mem : Nat → Bool} (hd : 4 ≤ d) (hs : s < 6) (h24 : pop F ≤ 24) (hn : n = fb_ct mem (pop F)) (ha : SH a = (20, 24)) (ha1 : a ≠ 178) (ha2 : a ≠ 192) (hT : (e = 1 ∧ RSh (I 178) s F ∧ mem = fun _ => true) ∨ (e = 0 ∧ (∃ B, RWl (I 178) s F B) ∧ ∀ m, m < n → I 192 m = nI (kth mem (pop F) m))) :
    callF X d 220 [.ref 177, .int (nI n), .int (nI e), .int (nI s), .ref a] (mk I J) = some (none, mk (va_up I a (rwM F mem (cw F mem (pop F)) (I a))) J) := by
  obtain ⟨d, rfl⟩ : ∃ d', d = d' + 1 := ⟨d - 1, by omega⟩
  have n24 : n ≤ 24 := by have := fb_ct_le mem (pop F); omega
  obtain ⟨cr, ecr⟩ : ∃ cr : Nat → Nat → Nat, cr = fun m => fB (fun j s => stpM F mem (kth mem (pop F) j) s) m (fun _ => 0) := ⟨_, rfl⟩
  have cr0 : cr 0 = fun _ => 0 := by rw [ecr]; rfl
  have crs : ∀ m, cr (m + 1) = stpM F mem (kth mem (pop F) m) (cr m) := fun m => by rw [ecr]; rfl
  have crN : cr n = cw F mem (pop F) := by rw [ecr, hn]; exact fB_kth (pop F) (Nat.le_refl _) _
  have crm : ∀ m, m < n → cr m = cw F mem (kth mem (pop F) m) := fun m hm => by
    obtain ⟨k1, k2, k3⟩ := kth_spec (p := mem) (N := pop F) (n := m) (by omega)
    have := fB_kth (p := mem) (N := pop F) (h := stpM F mem) (kth mem (pop F) m) (by omega) (fun _ => 0)
    rw [k3] at this
    rw [ecr]; exact this
  have crb : ∀ m, m < n → ∀ c, cr m c < 2 ^ 30 := fun m hm c => by
    rw [crm m hm]
    by_cases z : cw F mem (kth mem (pop F) m) c = 0
    · rw [z]; decide
    · obtain ⟨k1, _⟩ := kth_spec (p := mem) (N := pop F) (n := m) (by omega)
      have := (cw_inv (F := F) (mem := mem) (kth mem (pop F) m) (by omega) c (cw F mem (kth mem (pop F) m) c - 1) (by omega)).2.1
      omega
  rw [← crN]
  refine callF_at (by omega) (by decide) (Nat.le_of_ble_eq_true rfl) (fun d' hd' => ?_)
  obtain rfl : d = d' := by omega
  show Ev X d 220 0 [.ref 177, .int (nI n), .int (nI e), .int (nI s), .ref a, .retAddr 0, .retAddr 0] [] (mk I J) _
  have em : rwM F mem (fun _ => 0) (I a) = fillI n (-1) (I a) := by
    funext k; unfold rwM fillI; rw [← hn]; rfl
  -- the walk
  have walk : ∀ u6 : Value, Ev X d 220 4 [.ref 177, .int (nI n), .int (nI e), .int (nI s), .ref a, .int (nI 0), u6] [] (mk (va_up I a (rwM F mem (cr 0) (I a))) J) (none, mk (va_up I a (rwM F mem (cr n) (I a))) J) := by
    refine lpI (n := n) (P := fun m => ∀ u6 : Value, Ev X d 220 4 [.ref 177, .int (nI n), .int (nI e), .int (nI s), .ref a, .int (nI m), u6] [] (mk (va_up I a (rwM F mem (cr m) (I a))) J) (none, mk (va_up I a (rwM F mem (cr n) (I a))) J)) ?_ ?_ (fun Q => Q)
    · intro u6
      rw [U_220_4]
      simp (disch := first | omega | assumption | exact rfl) only [U_220_17, XX, QQ, WW, KK, QX, SHs, RRs, Nat.reduceAdd, Nat.reduceMul, Nat.reduceLeDiff, Nat.reduceEqDiff, List.length_cons, List.length_nil, decide_true, decide_false, Bool.true_and, Bool.and_true, Bool.false_and, Bool.and_false, false_and, and_false, Bool.false_eq_true, Bool.true_eq_false, reduceCtorEq, eq_self, if_true, if_false, true_and, and_true, not_true_eq_false, not_false_eq_true, if_pos, if_neg, z_ite_not, false_or, or_false, true_or, or_true, SWs, swk_0, swk_1]
    · intro m hm ih u6
      have m24 : m < 24 := by omega
      obtain ⟨k1, k2, k3⟩ := kth_spec (p := mem) (N := pop F) (n := m) (by omega)
      obtain ⟨f, ef⟩ : ∃ f, f = rwM F mem (cr m) (I a) := ⟨_, rfl⟩
      have fv : ∀ k, k < n → f k = ixM mem (cr m (kth mem (pop F) k)) := fun k hk => by rw [ef]; unfold rwM; rw [if_pos (by omega)]
      have fm := fv m hm
      rw [← ef]
      rw [crs] at ih
      rw [U_220_4]
      by_cases z : cr m (kth mem (pop F) m) = 0
      · have fm1 : f m = -1 := by rw [fm]; exact (ixM_m (crb m hm _)).mpr z
        have inner : ∀ j, j ≤ n → m < j → (∀ k, m < k → k < j → ¬ (cr m (kth mem (pop F) k) = 0 ∧ adj (pl F (kth mem (pop F) m)) (pl F (kth mem (pop F) k)))) → Ev X d 220 6 [.ref 177, .int (nI n), .int (nI e), .int (nI s), .ref a, .int (nI m), .int (nI j)] [] (mk (va_up I a f) J) (none, mk (va_up I a (rwM F mem (cr n) (I a))) J) := by
          refine lpd (n := n) (P := fun j => m < j → (∀ k, m < k → k < j → ¬ (cr m (kth mem (pop F) k) = 0 ∧ adj (pl F (kth mem (pop F) m)) (pl F (kth mem (pop F) k)))) → Ev X d 220 6 [.ref 177, .int (nI n), .int (nI e), .int (nI s), .ref a, .int (nI m), .int (nI j)] [] (mk (va_up I a f) J) (none, mk (va_up I a (rwM F mem (cr n) (I a))) J)) ?_ ?_
          · intro _ hno
            have e1 : fnx F mem (cr m) (kth mem (pop F) m) = pop F := fnx_no (fun k hk ⟨b1, b2, b3, b4⟩ => by
              have c1 := kth_ct hk b2
              have c2 := kth_lt hk b2
              have c3 := kth_lt b1 k2
              refine hno (fb_ct mem k) (by omega) (by omega) ?_
              rw [c1]; exact ⟨b3, b4⟩)
            have e2 : stpM F mem (kth mem (pop F) m) (cr m) = cr m := by unfold stpM; rw [if_neg (fun t => by omega)]
            rw [e2, ← ef] at ih
            rw [U_220_6]
            simp (disch := first | omega | assumption | exact rfl) only [U_220_16, XX, QQ, WW, KK, QX, SHs, RRs, Nat.reduceAdd, Nat.reduceMul, Nat.reduceLeDiff, Nat.reduceEqDiff, List.length_cons, List.length_nil, decide_true, decide_false, Bool.true_and, Bool.and_true, Bool.false_and, Bool.and_false, false_and, and_false, Bool.false_eq_true, Bool.true_eq_false, reduceCtorEq, eq_self, if_true, if_false, true_and, and_true, not_true_eq_false, not_false_eq_true, if_pos, if_neg, z_ite_not, false_or, or_false, true_or, or_true, SWs, swk_0, swk_1]
            exact ih _
          · intro j hj IH hmj hno
            have j24 : j < 24 := by omega
            obtain ⟨q1, q2, q3⟩ := kth_spec (p := mem) (N := pop F) (n := j) (by omega)
            have fj := fv j hj
            have jb := crb m hm (kth mem (pop F) j)
            have go : ∀ w : Bool, w = cd (adj (pl F (kth mem (pop F) m)) (pl F (kth mem (pop F) j))) → (if w = true then Ev X d 220 14 [.ref 177, .int (nI n), .int (nI e), .int (nI s), .ref a, .int (nI m), .int (nI j)] [] (mk (va_up I a f) J) (none, mk (va_up I a (rwM F mem (cr n) (I a))) J) else Ev X d 220 15 [.ref 177, .int (nI n), .int (nI e), .int (nI s), .ref a, .int (nI m), .int (nI j)] [] (mk (va_up I a f) J) (none, mk (va_up I a (rwM F mem (cr n) (I a))) J)) → Ev X d 220 9 [.ref 177, .int (nI n), .int (nI e), .int (nI s), .ref a, .int (nI m), .int (nI j)] [] (mk (va_up I a f) J) (none, mk (va_up I a (rwM F mem (cr n) (I a))) J) := fun w hw H => by
              have i8 : va_up I a f 178 = I 178 := vu_ne (fun t => ha1 t.symm)
              rcases hT with ⟨rfl, hR, rfl⟩ | ⟨rfl, ⟨B, hR⟩, h192⟩
              · have nN : n = pop F := by rw [hn]; exact fb_ct_all.mpr (fun _ _ => rfl)
                rw [kth_tt (by omega), kth_tt (by omega)] at hw
                have wt := r_shapeTouch (X := X) (d := d) (I := va_up I a f) (J := J) (s := s) (F := F) (i := m) (j := j) (by omega) hs (by rw [i8]; exact hR) (by omega) (by omega)
                rw [← hw] at wt
                cases w with
                | true =>
                  rw [if_pos rfl] at H
                  simp (disch := first | omega | assumption | exact rfl) only [U_220_9, U_220_10, U_220_11, XX, QQ, WW, KK, QX, SHs, RRs, Nat.reduceAdd, Nat.reduceMul, Nat.reduceLeDiff, Nat.reduceEqDiff, List.length_cons, List.length_nil, decide_true, decide_false, Bool.true_and, Bool.and_true, Bool.false_and, Bool.and_false, false_and, and_false, Bool.false_eq_true, Bool.true_eq_false, reduceCtorEq, eq_self, if_true, if_false, true_and, and_true, not_true_eq_false, not_false_eq_true, if_pos, if_neg, z_ite_not, false_or, or_false, true_or, or_true, SWs, swk_0, swk_1, wt]
                  exact H
                | false =>
                  rw [if_neg (by decide)] at H
                  simp (disch := first | omega | assumption | exact rfl) only [U_220_9, U_220_10, XX, QQ, WW, KK, QX, SHs, RRs, Nat.reduceAdd, Nat.reduceMul, Nat.reduceLeDiff, Nat.reduceEqDiff, List.length_cons, List.length_nil, decide_true, decide_false, Bool.true_and, Bool.and_true, Bool.false_and, Bool.and_false, false_and, and_false, Bool.false_eq_true, Bool.true_eq_false, reduceCtorEq, eq_self, if_true, if_false, true_and, and_true, not_true_eq_false, not_false_eq_true, if_pos, if_neg, z_ite_not, false_or, or_false, true_or, or_true, SWs, swk_0, swk_1, wt]
                  exact H
              · have wt := r_wallTouch (X := X) (d := d) (I := va_up I a f) (J := J) (a := s) (F := F) (B := B) (i := kth mem (pop F) m) (j := kth mem (pop F) j) (by omega) hs (by rw [i8]; exact hR) (by omega) (by omega)
                rw [← hw] at wt
                have a1 : va_up I a f 192 = I 192 := vu_ne (fun t => ha2 t.symm)
                have a3 := h192 m hm
                have a4 := h192 j hj
                cases w with
                | true =>
                  rw [if_pos rfl] at H
                  simp (disch := first | omega | assumption | exact rfl) only [U_220_9, U_220_12, XX, QQ, WW, KK, QX, SHs, RRs, Nat.reduceAdd, Nat.reduceMul, Nat.reduceLeDiff, Nat.reduceEqDiff, List.length_cons, List.length_nil, decide_true, decide_false, Bool.true_and, Bool.and_true, Bool.false_and, Bool.and_false, false_and, and_false, Bool.false_eq_true, Bool.true_eq_false, reduceCtorEq, eq_self, if_true, if_false, true_and, and_true, not_true_eq_false, not_false_eq_true, if_pos, if_neg, z_ite_not, false_or, or_false, true_or, or_true, SWs, swk_0, swk_1, wt, a1, a3, a4]
                  exact H
                | false =>
                  rw [if_neg (by decide)] at H
                  simp (disch := first | omega | assumption | exact rfl) only [U_220_9, U_220_12, U_220_13, XX, QQ, WW, KK, QX, SHs, RRs, Nat.reduceAdd, Nat.reduceMul, Nat.reduceLeDiff, Nat.reduceEqDiff, List.length_cons, List.length_nil, decide_true, decide_false, Bool.true_and, Bool.and_true, Bool.false_and, Bool.and_false, false_and, and_false, Bool.false_eq_true, Bool.true_eq_false, reduceCtorEq, eq_self, if_true, if_false, true_and, and_true, not_true_eq_false, not_false_eq_true, if_pos, if_neg, z_ite_not, false_or, or_false, true_or, or_true, SWs, swk_0, swk_1, wt, a1, a3, a4]
                  exact H
            rw [U_220_6]
            by_cases y : cr m (kth mem (pop F) j) = 0
            · have fj1 : f j = -1 := by rw [fj]; exact (ixM_m jb).mpr y
              by_cases ad : adj (pl F (kth mem (pop F) m)) (pl F (kth mem (pop F) j))
              · have e1 : fnx F mem (cr m) (kth mem (pop F) m) = kth mem (pop F) j := fnx_is q1 ⟨kth_mono hmj (by omega), q2, y, ad⟩ (fun k hk ⟨b1, b2, b3, b4⟩ => by
                  have hk' : k < pop F := by omega
                  have c1 := kth_ct hk' b2
                  have c2 := kth_lt hk b2
                  have c3 := kth_lt b1 k2
                  refine hno (fb_ct mem k) (by omega) (by omega) ?_
                  rw [c1]; exact ⟨b3, b4⟩)
                have e2 : stpM F mem (kth mem (pop F) m) (cr m) = va_up (va_up (cr m) (kth mem (pop F) m) (kth mem (pop F) j + 1)) (kth mem (pop F) j) (kth mem (pop F) m + 1) := by unfold stpM; rw [e1, if_pos ⟨z, q1⟩]
                have e3 := rwM_s (mt := cr m) (g := I a) (F := F) (mem := mem) (m := m) (j := j) (by omega) hmj
                rw [e2, ← e3, ← ef] at ih
                refine (fun H => ?_ : Ev X d 220 9 [.ref 177, .int (nI n), .int (nI e), .int (nI s), .ref a, .int (nI m), .int (nI j)] [] (mk (va_up I a f) J) (none, mk (va_up I a (rwM F mem (cr n) (I a))) J) → _) (go true (cd_iff.mpr ad).symm ?_)
                · simp (disch := first | omega | assumption | exact rfl) only [U_220_7, U_220_8, XX, QQ, WW, KK, QX, SHs, RRs, Nat.reduceAdd, Nat.reduceMul, Nat.reduceLeDiff, Nat.reduceEqDiff, List.length_cons, List.length_nil, decide_true, decide_false, Bool.true_and, Bool.and_true, Bool.false_and, Bool.and_false, false_and, and_false, Bool.false_eq_true, Bool.true_eq_false, reduceCtorEq, eq_self, if_true, if_false, true_and, and_true, not_true_eq_false, not_false_eq_true, if_pos, if_neg, z_ite_not, false_or, or_false, true_or, or_true, SWs, swk_0, swk_1, ha, fm1, fj1]
                  exact H
                · rw [if_pos rfl]
                  have mj : ¬ m = j := by omega
                  have rd : va_up (va_up f m (nI j)) j (nI m) m = nI j := by rw [vu_ne mj, vu_eq]
                  have jn := nI_ne (b := j) (by omega)
                  have up : Ev X d 220 6 [.ref 177, .int (nI n), .int (nI e), .int (nI s), .ref a, .int (nI m), .int (nI (j + 1))] [] (mk (va_up I a (va_up (va_up f m (nI j)) j (nI m))) J) (none, mk (va_up I a (rwM F mem (cr n) (I a))) J) := by
                    rw [U_220_6]
                    rcases Nat.lt_or_ge (j + 1) n with t | t
                    · simp (disch := first | omega | assumption | exact rfl) only [U_220_7, U_220_16, XX, QQ, WW, KK, QX, SHs, RRs, Nat.reduceAdd, Nat.reduceMul, Nat.reduceLeDiff, Nat.reduceEqDiff, List.length_cons, List.length_nil, decide_true, decide_false, Bool.true_and, Bool.and_true, Bool.false_and, Bool.and_false, false_and, and_false, Bool.false_eq_true, Bool.true_eq_false, reduceCtorEq, eq_self, if_true, if_false, true_and, and_true, not_true_eq_false, not_false_eq_true, if_pos, if_neg, z_ite_not, false_or, or_false, true_or, or_true, SWs, swk_0, swk_1, ha, rd, jn]
                      exact ih _
                    · have t' : j + 1 = n := by omega
                      rw [t']
                      simp (disch := first | omega | assumption | exact rfl) only [U_220_16, XX, QQ, WW, KK, QX, SHs, RRs, Nat.reduceAdd, Nat.reduceMul, Nat.reduceLeDiff, Nat.reduceEqDiff, List.length_cons, List.length_nil, decide_true, decide_false, Bool.true_and, Bool.and_true, Bool.false_and, Bool.and_false, false_and, and_false, Bool.false_eq_true, Bool.true_eq_false, reduceCtorEq, eq_self, if_true, if_false, true_and, and_true, not_true_eq_false, not_false_eq_true, if_pos, if_neg, z_ite_not, false_or, or_false, true_or, or_true, SWs, swk_0, swk_1]
                      exact ih _
                  simp (disch := first | omega | assumption | exact rfl) only [U_220_14, U_220_15, XX, QQ, WW, KK, QX, SHs, RRs, Nat.reduceAdd, Nat.reduceMul, Nat.reduceLeDiff, Nat.reduceEqDiff, List.length_cons, List.length_nil, decide_true, decide_false, Bool.true_and, Bool.and_true, Bool.false_and, Bool.and_false, false_and, and_false, Bool.false_eq_true, Bool.true_eq_false, reduceCtorEq, eq_self, if_true, if_false, true_and, and_true, not_true_eq_false, not_false_eq_true, if_pos, if_neg, z_ite_not, false_or, or_false, true_or, or_true, SWs, swk_0, swk_1, ha]
                  exact up
              · have nx := IH (by omega) (fun k h1 h2 ⟨h3, h4⟩ => by
                  by_cases t : k = j
                  · subst t; exact ad h4
                  · exact hno k h1 (by omega) ⟨h3, h4⟩)
                refine (fun H => ?_ : Ev X d 220 9 [.ref 177, .int (nI n), .int (nI e), .int (nI s), .ref a, .int (nI m), .int (nI j)] [] (mk (va_up I a f) J) (none, mk (va_up I a (rwM F mem (cr n) (I a))) J) → _) (go false (cd_f.mpr ad).symm ?_)
                · simp (disch := first | omega | assumption | exact rfl) only [U_220_7, U_220_8, XX, QQ, WW, KK, QX, SHs, RRs, Nat.reduceAdd, Nat.reduceMul, Nat.reduceLeDiff, Nat.reduceEqDiff, List.length_cons, List.length_nil, decide_true, decide_false, Bool.true_and, Bool.and_true, Bool.false_and, Bool.and_false, false_and, and_false, Bool.false_eq_true, Bool.true_eq_false, reduceCtorEq, eq_self, if_true, if_false, true_and, and_true, not_true_eq_false, not_false_eq_true, if_pos, if_neg, z_ite_not, false_or, or_false, true_or, or_true, SWs, swk_0, swk_1, ha, fm1, fj1]
                  exact H
                · rw [if_neg (by decide)]
                  simp (disch := first | omega | assumption | exact rfl) only [U_220_15, XX, QQ, WW, KK, QX, SHs, RRs, Nat.reduceAdd, Nat.reduceMul, Nat.reduceLeDiff, Nat.reduceEqDiff, List.length_cons, List.length_nil, decide_true, decide_false, Bool.true_and, Bool.and_true, Bool.false_and, Bool.and_false, false_and, and_false, Bool.false_eq_true, Bool.true_eq_false, reduceCtorEq, eq_self, if_true, if_false, true_and, and_true, not_true_eq_false, not_false_eq_true, if_pos, if_neg, z_ite_not, false_or, or_false, true_or, or_true, SWs, swk_0, swk_1]
                  exact nx
            · have fj1 : ¬ f j = -1 := by rw [fj]; exact fun t => y ((ixM_m jb).mp t)
              have nx := IH (by omega) (fun k h1 h2 ⟨h3, h4⟩ => by
                by_cases t : k = j
                · subst t; exact y h3
                · exact hno k h1 (by omega) ⟨h3, h4⟩)
              simp (disch := first | omega | assumption | exact rfl) only [U_220_7, U_220_8, U_220_15, XX, QQ, WW, KK, QX, SHs, RRs, Nat.reduceAdd, Nat.reduceMul, Nat.reduceLeDiff, Nat.reduceEqDiff, List.length_cons, List.length_nil, decide_true, decide_false, Bool.true_and, Bool.and_true, Bool.false_and, Bool.and_false, false_and, and_false, Bool.false_eq_true, Bool.true_eq_false, reduceCtorEq, eq_self, if_true, if_false, true_and, and_true, not_true_eq_false, not_false_eq_true, if_pos, if_neg, z_ite_not, false_or, or_false, true_or, or_true, SWs, swk_0, swk_1, ha, fm1, fj1]
              exact nx
        have st := inner (m + 1) (by omega) (by omega) (fun k h1 h2 => by omega)
        simp (disch := first | omega | assumption | exact rfl) only [U_220_5, XX, QQ, WW, KK, QX, SHs, RRs, Nat.reduceAdd, Nat.reduceMul, Nat.reduceLeDiff, Nat.reduceEqDiff, List.length_cons, List.length_nil, decide_true, decide_false, Bool.true_and, Bool.and_true, Bool.false_and, Bool.and_false, false_and, and_false, Bool.false_eq_true, Bool.true_eq_false, reduceCtorEq, eq_self, if_true, if_false, true_and, and_true, not_true_eq_false, not_false_eq_true, if_pos, if_neg, z_ite_not, false_or, or_false, true_or, or_true, SWs, swk_0, swk_1]
        exact st
      · have fm1 : ¬ f m = -1 := by rw [fm]; exact fun t => z ((ixM_m (crb m hm _)).mp t)
        have e2 : stpM F mem (kth mem (pop F) m) (cr m) = cr m := by unfold stpM; rw [if_neg (fun t => z t.1)]
        rw [e2, ← ef] at ih
        rcases Nat.lt_or_ge (m + 1) n with t | t
        · simp (disch := first | omega | assumption | exact rfl) only [U_220_5, U_220_6, U_220_7, U_220_16, XX, QQ, WW, KK, QX, SHs, RRs, Nat.reduceAdd, Nat.reduceMul, Nat.reduceLeDiff, Nat.reduceEqDiff, List.length_cons, List.length_nil, decide_true, decide_false, Bool.true_and, Bool.and_true, Bool.false_and, Bool.and_false, false_and, and_false, Bool.false_eq_true, Bool.true_eq_false, reduceCtorEq, eq_self, if_true, if_false, true_and, and_true, not_true_eq_false, not_false_eq_true, if_pos, if_neg, z_ite_not, false_or, or_false, true_or, or_true, SWs, swk_0, swk_1, ha, fm1]
          exact ih _
        · have t' : m + 1 = n := by omega
          rw [t'] at ih
          simp (disch := first | omega | assumption | exact rfl) only [U_220_5, U_220_6, U_220_16, XX, QQ, WW, KK, QX, SHs, RRs, Nat.reduceAdd, Nat.reduceMul, Nat.reduceLeDiff, Nat.reduceEqDiff, List.length_cons, List.length_nil, decide_true, decide_false, Bool.true_and, Bool.and_true, Bool.false_and, Bool.and_false, false_and, and_false, Bool.false_eq_true, Bool.true_eq_false, reduceCtorEq, eq_self, if_true, if_false, true_and, and_true, not_true_eq_false, not_false_eq_true, if_pos, if_neg, z_ite_not, false_or, or_false, true_or, or_true, SWs, swk_0, swk_1, t']
          exact ih _
  -- none has a mate at first
  have z0 : ∀ u6 : Value, Ev X d 220 1 [.ref 177, .int (nI n), .int (nI e), .int (nI s), .ref a, .int (nI 0), u6] [] (mk I J) (none, mk (va_up I a (rwM F mem (cr n) (I a))) J) := fun u6 => by
    refine lpI (n := n) (P := fun i => Ev X d 220 1 [.ref 177, .int (nI n), .int (nI e), .int (nI s), .ref a, .int (nI i), u6] [] (mk (va_up I a (fillI i (-1) (I a))) J) (none, mk (va_up I a (rwM F mem (cr n) (I a))) J)) ?_ ?_ (fun Q => by rw [fillI_0, vu_id] at Q; exact Q)
    · have w := walk u6
      rw [cr0, em] at w
      rw [U_220_1]
      simp (disch := first | omega | assumption | exact rfl) only [U_220_3, XX, QQ, WW, KK, QX, SHs, RRs, Nat.reduceAdd, Nat.reduceMul, Nat.reduceLeDiff, Nat.reduceEqDiff, List.length_cons, List.length_nil, decide_true, decide_false, Bool.true_and, Bool.and_true, Bool.false_and, Bool.and_false, false_and, and_false, Bool.false_eq_true, Bool.true_eq_false, reduceCtorEq, eq_self, if_true, if_false, true_and, and_true, not_true_eq_false, not_false_eq_true, if_pos, if_neg, z_ite_not, false_or, or_false, true_or, or_true, SWs, swk_0, swk_1]
      exact w
    · intro i hi ih
      have i24 : i < 24 := by omega
      rw [← fillI_s] at ih
      rw [U_220_1]
      simp (disch := first | omega | assumption | exact rfl) only [U_220_2, XX, QQ, WW, KK, QX, SHs, RRs, Nat.reduceAdd, Nat.reduceMul, Nat.reduceLeDiff, Nat.reduceEqDiff, List.length_cons, List.length_nil, decide_true, decide_false, Bool.true_and, Bool.and_true, Bool.false_and, Bool.and_false, false_and, and_false, Bool.false_eq_true, Bool.true_eq_false, reduceCtorEq, eq_self, if_true, if_false, true_and, and_true, not_true_eq_false, not_false_eq_true, if_pos, if_neg, z_ite_not, false_or, or_false, true_or, or_true, SWs, swk_0, swk_1, ha]
      exact ih
  simp (disch := first | omega | assumption | exact rfl) only [U_220_0, XX, QQ, WW, KK, QX, SHs, RRs, Nat.reduceAdd, Nat.reduceMul, Nat.reduceLeDiff, Nat.reduceEqDiff, List.length_cons, List.length_nil, decide_true, decide_false, Bool.true_and, Bool.and_true, Bool.false_and, Bool.and_false, false_and, and_false, Bool.false_eq_true, Bool.true_eq_false, reduceCtorEq, eq_self, if_true, if_false, true_and, and_true, not_true_eq_false, not_false_eq_true, if_pos, if_neg, z_ite_not, false_or, or_false, true_or, or_true, SWs, swk_0, swk_1]
  exact z0 _
