/-! ===== the script, the strings, calls, jumps ===== -/
/-- the script's row and the strings, below all cells of the system -/
def SC (s0 : State) (H0 : Heap) (B : Nat) (SA : Nat → Nat) (X : Nat × (Nat → Int32)) : Prop := SA 1000 < B ∧ va_X (SA 1000) X.1 X.2 s0 H0 ∧ ∀ (k : Nat) (q : Nat × Nat × String), sttL[k]? = some q → vk_R (clsN q.1) q.2.1 q.2.2 (SA k) s0
theorem cdw_rng : cdwL = List.range 269 := by decide +kernel
theorem inw_rng : inwL = List.range 269 := by decide +kernel
theorem ml_12 : ∀ k, k < 270 → ML k ≤ 12 := by decide +kernel
theorem mc_19 : ∀ k, k < 270 → mC k < 19 := by decide +kernel
set_option maxRecDepth 100000 in
theorem mt_cls : ∀ k, k < 270 → (mt k).1.cls = clsN (mC k) := rng_eq rfl
theorem cls_mh : ∀ k, k < 19 → clsN k ≠ "java/lang/invoke/MethodHandle" ∧ clsN k ≠ "java/lang/invoke/VarHandle" := by decide +kernel
theorem cls_kd : ∀ k, k < 13 → (clO k).1 = clsN (k + 1) := rng_eq rfl
theorem ctr_nm : ∀ k, k ∈ ctrL → (mt k).1.name = "<init>" := by
  have h : ctrL.map (fun k => (mt k).1.name) = ctrL.map (fun _ => "<init>") := rfl
  intro k hk
  obtain ⟨j, hj⟩ := List.getElem?_of_mem hk
  have h1 := congrArg (fun z => z[j]?) h
  simpa [List.getElem?_map, hj] using h1
theorem ctr_rt : ∀ k, k ∈ ctrL → (mt k).2.2.1 = none := by
  have h : ctrL.map (fun k => (mt k).2.2.1) = ctrL.map (fun _ => none) := rfl
  intro k hk
  obtain ⟨j, hj⟩ := List.getElem?_of_mem hk
  have h1 := congrArg (fun z => z[j]?) h
  simpa [List.getElem?_map, hj] using h1
theorem td_cons {st t : List Value} {v : Value} {n : Nat} (h : st.drop n = v :: t) : st = st.take n ++ v :: t ∧ (st.take (n + 1)).reverse = v :: (st.take n).reverse ∧ (st.take n).length = n := by
  have h1 : st = st.take n ++ v :: t := by rw [← h, List.take_append_drop]
  have h2 : (st.take n).length = n := by
    rw [List.length_take]
    have := congrArg List.length h
    rw [List.length_drop, List.length_cons] at this
    omega
  refine ⟨h1, ?_, h2⟩
  have h3 : st.take (n + 1) = st.take n ++ [v] := by
    rw [List.take_succ]
    congr 1
    have : st[n]? = some v := by
      have h4 := congrArg (fun z => z[0]?) h
      simpa [List.getElem?_drop] using h4
    rw [this]; rfl
  rw [h3, List.reverse_append]; rfl
section STEP3
variable {p : Program} {l : Launch} {e : Env} {R : Room} {s s0 : State} {m : MethodId} {args : Array Value} {below : List Frame} {meth : Method} {c : Code} {Q : State → Prop} {D : va_G} {cy : Nat → ClassId} {B : Nat} {H0 : Heap} {SA : Nat → Nat} {mi n0 z0 : Nat} {pc : Nat} {L st : List Value} {M : Mem} {cal : Nat → List Value → Mem → Ans} {X : Nat × (Nat → Int32)} {bk len r1 r2 r3 : Nat} {L' st' : List Value} {M' : Mem}
theorem sn_sald (hB : BB s0 p s m meth c mi) (hS : SC s0 H0 B SA X) {i : Int32} (hin : inb i X.1 = true) (hd : decode (mt mi).2.1 pc = .ok (.iaload, 1)) (kk : WP p l e R s m args below meth c Q D cy B H0 SA mi n0 z0 (pc + 1) (L) (.int (X.2 i.toNatClampNeg) :: st) (M)) : WP p l e R s m args below meth c Q D cy B H0 SA mi n0 z0 (pc) (L) (.int i :: .float 1000 :: st) (M) := by
  intro H locs ls hL hR hl
  obtain ⟨scr, h1, h2, h3, h4, h5⟩ := hS.2.1
  exact W.iald hB.1 hB.2.1 (by show H[SA 1000]? = some scr; rw [hR.2.1 _ hS.1]; exact h1) (State.isArrayOf_alike hB.2.2.2.2.1.alike h2) h3 (by rw [h4]; exact inb_vp hin) (h5 _ (inb_in hin).2) rfl rfl hd (kk H locs ls hL hR hl)
theorem sn_slen (hB : BB s0 p s m meth c mi) (hS : SC s0 H0 B SA X) (hd : decode (mt mi).2.1 pc = .ok (.arraylength, 1)) (kk : WP p l e R s m args below meth c Q D cy B H0 SA mi n0 z0 (pc + 1) (L) (.int (nI X.1) :: st) (M)) : WP p l e R s m args below meth c Q D cy B H0 SA mi n0 z0 (pc) (L) (.float 1000 :: st) (M) := by
  intro H locs ls hL hR hl
  obtain ⟨scr, h1, h2, h3, h4, h5⟩ := hS.2.1
  exact W.alen (n := nI X.1) hB.1 hB.2.1 (by show H[SA 1000]? = some scr; rw [hR.2.1 _ hS.1]; exact h1) (State.isArrayOf_alike hB.2.2.2.2.1.alike h2) (by rw [h4]; rfl) rfl rfl hd (kk H locs ls hL hR hl)
theorem st_iald (hG : GG s0 D cy) (hB : BB s0 p s m meth c mi) (h19 : mC mi < 19) (hS : SC s0 H0 B SA X) (hd : decode (mt mi).2.1 pc = .ok (.iaload, len)) (hok : okI mi bk pc (.iaload, r1, r2, r3) len = true) (hst : stp cal X swt bk (.iaload, r1, r2, r3) L st M = some (.inl (L', st', M'))) (k : WP p l e R s m args below meth c Q D cy B H0 SA mi n0 z0 (pc + len) (L') (st') (M')) : WP p l e R s m args below meth c Q D cy B H0 SA mi n0 z0 (pc) (L) (st) (M) := by
  have hl : len = 1 := of_decide_eq_true hok
  subst hl
  simp only [stp] at hst
  split at hst
  · split at hst
    · next hsh => obtain ⟨e1, e2, e3⟩ := s_ok_inj hst; subst e1; subst e2; subst e3; exact sn_iaload hG hB hsh.1 hsh.2 hd k
    · cases hst
  · split at hst
    · next hsh => obtain ⟨e1, e2, e3⟩ := s_ok_inj hst; subst e1; subst e2; subst e3; obtain ⟨rfl, hin⟩ := hsh; exact sn_sald hB hS hin hd k
    · cases hst
  · cases hst
theorem st_alen (hG : GG s0 D cy) (hB : BB s0 p s m meth c mi) (h19 : mC mi < 19) (hS : SC s0 H0 B SA X) (hd : decode (mt mi).2.1 pc = .ok (.arraylength, len)) (hok : okI mi bk pc (.arraylength, r1, r2, r3) len = true) (hst : stp cal X swt bk (.arraylength, r1, r2, r3) L st M = some (.inl (L', st', M'))) (k : WP p l e R s m args below meth c Q D cy B H0 SA mi n0 z0 (pc + len) (L') (st') (M')) : WP p l e R s m args below meth c Q D cy B H0 SA mi n0 z0 (pc) (L) (st) (M) := by
  have hl : len = 1 := of_decide_eq_true hok
  subst hl
  simp only [stp] at hst
  split at hst
  · split at hst
    · next hsh => obtain ⟨e1, e2, e3⟩ := s_ok_inj hst; subst e1; subst e2; subst e3; exact sn_alen hG hB hsh.1 hsh.2 hd k
    · cases hst
  · split at hst
    · next hsh => obtain ⟨e1, e2, e3⟩ := s_ok_inj hst; subst e1; subst e2; subst e3; subst hsh; exact sn_slen hB hS hd k
    · cases hst
  · cases hst
/-- what stands behind the calls: contracts of the methods at a lesser depth, and the growth of the memory -/
def CK (l : Launch) (s0 : State) (D : va_G) (cy : Nat → ClassId) (B : Nat) (H0 : Heap) (SA : Nat → Nat) (d : Nat) (cal : Nat → List Value → Mem → Ans) : Prop := grows cal ∧ ∀ (k : Nat) (vs : List Value) (M : Mem) (r : Option Value × Mem), cal k vs M = some r → k < 270 → MetA l s0 D cy B H0 SA d (mt k).1 (mt k).2.1 (ML k) (mt k).2.2.1 vs M r
theorem callOK {d k n : Nat} (hk : k < 269) (hr1 : d + 1 ≤ R.frames) (hr2 : 100 * d + 100 ≤ R.locals) (hp : (parseMethodDescriptor (mt k).1.desc).map (fun d => d.parameters.length) = some n) : CallOK R d (mt k).1 (mt k).2.1 (ML k) (mt k).2.2.1 n := by
  refine ⟨hr1, hr2, ml_12 k (by omega), cdw_all k (by rw [cdw_rng]; exact List.mem_range.mpr hk), inw_all k (by rw [inw_rng]; exact List.mem_range.mpr hk), ?_, hp⟩
  rw [mt_cls k (by omega)]
  exact cls_mh _ (mc_19 k (by omega))
theorem st_invokevirtual {i : Nat} (hG : GG s0 D cy) (hB : BB s0 p s m meth c mi) (h19 : mC mi < 19) {d : Nat} (hC : CK l s0 D cy B H0 SA d cal) (hr1 : d + 1 ≤ R.frames) (hr2 : 100 * d + 100 ≤ R.locals) (hn0 : n0 ≤ m_n M) (hz0 : z0 ≤ m_z M) (hc1 : m_n M' - n0 ≤ R.cells) (hc2 : m_z M' - z0 ≤ R.slots) (hPr : ∀ (i : Nat) (vs : List Value) (st : List Value) (r : Option Value × Mem), 1000 ≤ r1 → (i, r1) ∈ cst (mC mi) → st.length ≤ 4 → cal r1 vs M = some r → m_n r.2 - n0 ≤ R.cells → m_z r.2 - z0 ≤ R.slots → decode (mt mi).2.1 pc = .ok (.invokevirtual i, 3) → WP p l e R s m args below meth c Q D cy B H0 SA mi n0 z0 (pc + 3) (L) (psh r.1 st) (r.2) → WP p l e R s m args below meth c Q D cy B H0 SA mi n0 z0 (pc) (L) (vs.reverse ++ st) (M)) (hd : decode (mt mi).2.1 pc = .ok (.invokevirtual i, len)) (hok : okI mi bk pc (.invokevirtual i, r1, r2, r3) len = true) (hst : stp cal X swt bk (.invokevirtual i, r1, r2, r3) L st M = some (.inl (L', st', M'))) (k : WP p l e R s m args below meth c Q D cy B H0 SA mi n0 z0 (pc + len) (L') (st') (M')) : WP p l e R s m args below meth c Q D cy B H0 SA mi n0 z0 (pc) (L) (st) (M) := by
  simp only [okI, Bool.and_eq_true, decide_eq_true_eq] at hok
  obtain ⟨⟨rfl, hr0⟩, hok⟩ := hok
  simp only [stp] at hst
  split at hst
  · next o st0 heq =>
    split at hst
    · next hsh =>
      obtain ⟨v, hv, rfl, rfl⟩ := s_call_inv hst
      obtain ⟨t1, t2, t3⟩ := td_cons heq
      rw [show r2 - 1 + 1 = r2 by omega] at t2
      rw [t2] at hv
      split at hok
      · next h1000 =>
        simp only [Bool.and_eq_true, decide_eq_true_eq] at hok
        obtain ⟨⟨⟨⟨⟨⟨g1, g2⟩, g3⟩, g4⟩, g5⟩, g6⟩, g7⟩ := hok
        have hgr := hC.1 _ _ _ _ hv
        have hM := hC.2 _ _ _ _ hv (by omega)
        rw [t1, show st.take (r2 - 1) = (st.take (r2 - 1)).reverse.reverse from (List.reverse_reverse _).symm]
        have hcl : (clO r3).1 = (mt r1).1.cls := by rw [mt_cls r1 (by omega), g2, cls_kd r3 g1]
        simp only [Bool.or_eq_true, decide_eq_true_eq] at g6
        rcases g6 with g6 | g6
        · exact sn_callV hG hB hM (callOK g3 hr1 hr2 g7) (by rw [List.length_reverse]; exact t3) g1 hcl hsh.1 (cw_all (mC mi) h19 _ g6) (isw_all r1 g5) (slw_all r1 g4) hsh.2 hn0 hz0 hgr.1 hgr.2 hc1 hc2 hd k
        · exact sn_callVN hG hB hM (callOK g3 hr1 hr2 g7) (by rw [List.length_reverse]; exact t3) g1 hcl hsh.1 (cw_all (mC mi) h19 _ g6) (isw_all r1 g5) (slw_all r1 g4) hsh.2 hn0 hz0 hgr.1 hgr.2 hc1 hc2 hd k
      · next h1000 =>
        simp only [Bool.and_eq_true, decide_eq_true_eq] at hok
        obtain ⟨⟨g0, g1⟩, g2⟩ := hok
        have hs4 : st0.length ≤ 4 := by rcases hsh.2 with q | q; exact q; omega
        have hx := hPr i _ st0 (v, M') (by omega) g1 hs4 hv hc1 hc2 hd k
        rw [List.reverse_cons, List.reverse_reverse, List.append_assoc] at hx
        rw [t1]; exact hx
    · cases hst
  · next o st0 heq =>
    split at hst
    · next hsh =>
      obtain ⟨v, hv, rfl, rfl⟩ := s_call_inv hst
      obtain ⟨t1, t2, t3⟩ := td_cons heq
      rw [show r2 - 1 + 1 = r2 by omega] at t2
      rw [t2] at hv
      split at hok
      · omega
      · simp only [Bool.and_eq_true, decide_eq_true_eq] at hok
        obtain ⟨⟨g0, g1⟩, g2⟩ := hok
        have hx := hPr i _ st0 (v, M') hsh.1 g1 hsh.2 hv hc1 hc2 hd k
        rw [List.reverse_cons, List.reverse_reverse, List.append_assoc] at hx
        rw [t1]; exact hx
    · cases hst
  · cases hst
theorem st_invokestatic {i : Nat} (hG : GG s0 D cy) (hB : BB s0 p s m meth c mi) (h19 : mC mi < 19) {d : Nat} (hC : CK l s0 D cy B H0 SA d cal) (hr1 : d + 1 ≤ R.frames) (hr2 : 100 * d + 100 ≤ R.locals) (hn0 : n0 ≤ m_n M) (hz0 : z0 ≤ m_z M) (hc1 : m_n M' - n0 ≤ R.cells) (hc2 : m_z M' - z0 ≤ R.slots) (hd : decode (mt mi).2.1 pc = .ok (.invokestatic i, len)) (hok : okI mi bk pc (.invokestatic i, r1, r2, r3) len = true) (hst : stp cal X swt bk (.invokestatic i, r1, r2, r3) L st M = some (.inl (L', st', M'))) (k : WP p l e R s m args below meth c Q D cy B H0 SA mi n0 z0 (pc + len) (L') (st') (M')) : WP p l e R s m args below meth c Q D cy B H0 SA mi n0 z0 (pc) (L) (st) (M) := by
  rcases r3 with _ | _ | _ | _ | _ | _ | r3
  · simp only [okI, Bool.and_eq_true, decide_eq_true_eq] at hok
    obtain ⟨rfl, ⟨⟨g1, g2⟩, g3⟩, g4⟩ := hok
    simp only [stp] at hst
    split at hst
    · next hsh =>
      obtain ⟨v, hv, rfl, rfl⟩ := s_call_inv hst
      have hgr := hC.1 _ _ _ _ hv
      have hM := hC.2 _ _ _ _ hv (by omega)
      have t1 : st = (st.take r2).reverse.reverse ++ st.drop r2 := by rw [List.reverse_reverse, List.take_append_drop]
      have t2 : (st.take r2).reverse.length = r2 := by rw [List.length_reverse, List.length_take]; omega
      simp only [Bool.or_eq_true, decide_eq_true_eq] at g3
      have hgo : WP p l e R s m args below meth c Q D cy B H0 SA mi n0 z0 (pc) (L') ((st.take r2).reverse.reverse ++ st.drop r2) (M) := by
        rcases g3 with g3 | g3
        · exact sn_callS (o := 0) hG hB hM (callOK g1 hr1 hr2 g4) t2 (cw_all (mC mi) h19 _ g3) (stw_all r1 g2) hsh.2 hn0 hz0 hgr.1 hgr.2 hc1 hc2 hd k
        · exact sn_callSN (o := 0) hG hB hM (callOK g1 hr1 hr2 g4) t2 (cw_all (mC mi) h19 _ g3) (stw_all r1 g2) hsh.2 hn0 hz0 hgr.1 hgr.2 hc1 hc2 hd k
      rw [← t1] at hgo
      exact hgo
    · cases hst
  · simp only [okI, Bool.and_eq_true, decide_eq_true_eq] at hok
    obtain ⟨rfl, g1⟩ := hok
    simp only [stp] at hst
    split at hst
    · split at hst
      · next hsh => obtain ⟨e1, e2, e3⟩ := s_ok_inj hst; subst e1; subst e2; subst e3; obtain ⟨q1, q2, q3, q4, q5, q6, q7, q8⟩ := hsh; exact sn_acpI hG hB h19 g1 q1 q2 q3 q4 q5 q6 q7 q8 (by omega) (by omega) hd k
      · cases hst
    · cases hst
  · simp only [okI, Bool.and_eq_true, decide_eq_true_eq] at hok
    obtain ⟨rfl, g1⟩ := hok
    simp only [stp] at hst
    split at hst
    · split at hst
      · next hsh => obtain ⟨e1, e2, e3⟩ := s_ok_inj hst; subst e1; subst e2; subst e3; obtain ⟨q1, q2, q3, q4, q5, q6, q7, q8⟩ := hsh; exact sn_acpJ hG hB h19 g1 q1 q2 q3 q4 q5 q6 q7 q8 (by omega) (by omega) hd k
      · cases hst
    · cases hst
  · simp [okI] at hok
  · simp only [okI, Bool.and_eq_true, decide_eq_true_eq] at hok
    obtain ⟨rfl, g1⟩ := hok
    simp only [stp] at hst
    split at hst
    · split at hst
      · next hsh => obtain ⟨e1, e2, e3⟩ := s_ok_inj hst; subst e1; subst e2; subst e3; exact sn_mmax hG hB h19 g1 hsh (by omega) (by omega) hc1 hc2 hd k
      · cases hst
    · cases hst
  · simp only [okI, Bool.and_eq_true, decide_eq_true_eq] at hok
    obtain ⟨rfl, g1⟩ := hok
    simp only [stp] at hst
    split at hst
    · split at hst
      · next hsh => obtain ⟨e1, e2, e3⟩ := s_ok_inj hst; subst e1; subst e2; subst e3; exact sn_mmin hG hB h19 g1 hsh (by omega) (by omega) hc1 hc2 hd k
      · cases hst
    · cases hst
  · simp [okI] at hok
theorem st_invokespecial {i : Nat} (hG : GG s0 D cy) (hB : BB s0 p s m meth c mi) (h19 : mC mi < 19) {d : Nat} (hC : CK l s0 D cy B H0 SA d cal) (hr1 : d + 1 ≤ R.frames) (hr2 : 100 * d + 100 ≤ R.locals) (hn0 : n0 ≤ m_n M) (hz0 : z0 ≤ m_z M) (hc1 : m_n M' - n0 ≤ R.cells) (hc2 : m_z M' - z0 ≤ R.slots) (hd : decode (mt mi).2.1 pc = .ok (.invokespecial i, len)) (hok : okI mi bk pc (.invokespecial i, r1, r2, r3) len = true) (hst : stp cal X swt bk (.invokespecial i, r1, r2, r3) L st M = some (.inl (L', st', M'))) (k : WP p l e R s m args below meth c Q D cy B H0 SA mi n0 z0 (pc + len) (L') (st') (M')) : WP p l e R s m args below meth c Q D cy B H0 SA mi n0 z0 (pc) (L) (st) (M) := by
  rcases r3 with _ | _ | _ | _ | r3
  · simp only [okI, Bool.and_eq_true, decide_eq_true_eq] at hok
    obtain ⟨rfl, ⟨⟨⟨⟨g1, g2⟩, g3⟩, g4⟩, g5⟩, g6⟩ := hok
    simp only [stp] at hst
    split at hst
    · next o st0 heq =>
      split at hst
      · next hsh =>
        obtain ⟨v, hv, rfl, rfl⟩ := s_call_inv hst
        obtain ⟨t1, t2, t3⟩ := td_cons heq
        rw [show r2 - 1 + 1 = r2 by omega] at t2
        rw [t2] at hv
        have hgr := hC.1 _ _ _ _ hv
        have hM := hC.2 _ _ _ _ hv (by omega)
        simp only [Bool.or_eq_true, decide_eq_true_eq] at g4
        rw [t1, show st.take (r2 - 1) = (st.take (r2 - 1)).reverse.reverse from (List.reverse_reverse _).symm]
        rcases g4 with g4 | g4
        · exact sn_callI hG hB hM (callOK g1 hr1 hr2 g6) (by rw [List.length_reverse]; exact t3) (ctr_rt r1 g2) (ctr_nm r1 g2) (cw_all (mC mi) h19 _ g4) (isw_all r1 g3) hsh hn0 hz0 hgr.1 hgr.2 hc1 hc2 hd k
        · exact sn_callIN hG hB hM (callOK g1 hr1 hr2 g6) (by rw [List.length_reverse]; exact t3) (ctr_rt r1 g2) (ctr_nm r1 g2) (cw_all (mC mi) h19 _ g4) (isw_all r1 g3) hsh hn0 hz0 hgr.1 hgr.2 hc1 hc2 hd k
      · cases hst
    · cases hst
  · simp [okI] at hok
  · simp [okI] at hok
  · simp only [okI, Bool.and_eq_true, decide_eq_true_eq] at hok
    obtain ⟨rfl, g1⟩ := hok
    simp only [stp] at hst
    split at hst
    · split at hst
      · next hsh => obtain ⟨e1, e2, e3⟩ := s_ok_inj hst; subst e1; subst e2; subst e3; exact sn_oinit hG hB h19 g1 hsh (by omega) (by omega) hd k
      · cases hst
    · cases hst
  · simp [okI] at hok
end STEP3
