/-! ===== step by step: the instructions that go on ===== -/
section STEP
variable {p : Program} {l : Launch} {e : Env} {R : Room} {s s0 : State} {m : MethodId} {args : Array Value} {below : List Frame} {meth : Method} {c : Code} {Q : State → Prop} {D : va_G} {cy : Nat → ClassId} {B : Nat} {H0 : Heap} {SA : Nat → Nat} {mi n0 z0 : Nat} {pc : Nat} {L st : List Value} {M : Mem} {cal : Nat → List Value → Mem → Ans} {X : Nat × (Nat → Int32)} {bk len r1 r2 r3 : Nat} {L' st' : List Value} {M' : Mem}
theorem st_iconst {n : Int} (hG : GG s0 D cy) (hB : BB s0 p s m meth c mi) (h19 : mC mi < 19) (hd : decode (mt mi).2.1 pc = .ok (.iconst n, len)) (hok : okI mi bk pc (.iconst n, r1, r2, r3) len = true) (hst : stp cal X swt bk (.iconst n, r1, r2, r3) L st M = some (.inl (L', st', M'))) (k : WP p l e R s m args below meth c Q D cy B H0 SA mi n0 z0 (pc + len) (L') (st') (M')) : WP p l e R s m args below meth c Q D cy B H0 SA mi n0 z0 (pc) (L) (st) (M) := by
  simp only [okI, Bool.and_eq_true, decide_eq_true_eq] at hok
  obtain ⟨rfl, hc⟩ := hok
  rcases r2 with _ | _ | r2
  · have hst : s_ok L (.int (nI r1) :: st) M = _ := hst
    obtain ⟨e1, e2, e3⟩ := s_ok_inj hst; subst e1; subst e2; subst e3; exact sn_iconst hB (of_decide_eq_true hc) hd k
  · have hst : s_ok L (.int (-(nI r1)) :: st) M = _ := hst
    obtain ⟨e1, e2, e3⟩ := s_ok_inj hst; subst e1; subst e2; subst e3; exact sn_iconst hB (of_decide_eq_true hc) hd k
  · cases hc
theorem st_bipush {n : Int} (hG : GG s0 D cy) (hB : BB s0 p s m meth c mi) (h19 : mC mi < 19) (hd : decode (mt mi).2.1 pc = .ok (.bipush n, len)) (hok : okI mi bk pc (.bipush n, r1, r2, r3) len = true) (hst : stp cal X swt bk (.bipush n, r1, r2, r3) L st M = some (.inl (L', st', M'))) (k : WP p l e R s m args below meth c Q D cy B H0 SA mi n0 z0 (pc + len) (L') (st') (M')) : WP p l e R s m args below meth c Q D cy B H0 SA mi n0 z0 (pc) (L) (st) (M) := by
  simp only [okI, Bool.and_eq_true, decide_eq_true_eq] at hok
  obtain ⟨rfl, hc⟩ := hok
  rcases r2 with _ | _ | r2
  · have hst : s_ok L (.int (nI r1) :: st) M = _ := hst
    obtain ⟨e1, e2, e3⟩ := s_ok_inj hst; subst e1; subst e2; subst e3; exact sn_bipush hB (of_decide_eq_true hc) hd k
  · have hst : s_ok L (.int (-(nI r1)) :: st) M = _ := hst
    obtain ⟨e1, e2, e3⟩ := s_ok_inj hst; subst e1; subst e2; subst e3; exact sn_bipush hB (of_decide_eq_true hc) hd k
  · cases hc
theorem st_sipush {n : Int} (hG : GG s0 D cy) (hB : BB s0 p s m meth c mi) (h19 : mC mi < 19) (hd : decode (mt mi).2.1 pc = .ok (.sipush n, len)) (hok : okI mi bk pc (.sipush n, r1, r2, r3) len = true) (hst : stp cal X swt bk (.sipush n, r1, r2, r3) L st M = some (.inl (L', st', M'))) (k : WP p l e R s m args below meth c Q D cy B H0 SA mi n0 z0 (pc + len) (L') (st') (M')) : WP p l e R s m args below meth c Q D cy B H0 SA mi n0 z0 (pc) (L) (st) (M) := by
  simp only [okI, Bool.and_eq_true, decide_eq_true_eq] at hok
  obtain ⟨rfl, hc⟩ := hok
  rcases r2 with _ | _ | r2
  · have hst : s_ok L (.int (nI r1) :: st) M = _ := hst
    obtain ⟨e1, e2, e3⟩ := s_ok_inj hst; subst e1; subst e2; subst e3; exact sn_sipush hB (of_decide_eq_true hc) hd k
  · have hst : s_ok L (.int (-(nI r1)) :: st) M = _ := hst
    obtain ⟨e1, e2, e3⟩ := s_ok_inj hst; subst e1; subst e2; subst e3; exact sn_sipush hB (of_decide_eq_true hc) hd k
  · cases hc
theorem st_ldc {i : Nat} (hG : GG s0 D cy) (hB : BB s0 p s m meth c mi) (h19 : mC mi < 19) (hS : ∀ (k : Nat) (q : Nat × Nat × String), sttL[k]? = some q → ∀ {args : Array Value} {U : State}, s0.WarmedH U.vm → vk_R (clsN q.1) q.2.1 q.2.2 (SA k) U) (hd : decode (mt mi).2.1 pc = .ok (.ldc i, len)) (hok : okI mi bk pc (.ldc i, r1, r2, r3) len = true) (hst : stp cal X swt bk (.ldc i, r1, r2, r3) L st M = some (.inl (L', st', M'))) (k : WP p l e R s m args below meth c Q D cy B H0 SA mi n0 z0 (pc + len) (L') (st') (M')) : WP p l e R s m args below meth c Q D cy B H0 SA mi n0 z0 (pc) (L) (st) (M) := by
  rcases r2 with _ | _ | _ | r2
  · have hst : s_ok L (.int (nI r1) :: st) M = _ := hst
    simp only [okI, Bool.and_eq_true, decide_eq_true_eq] at hok
    obtain ⟨rfl, hc, -⟩ := hok
    obtain ⟨e1, e2, e3⟩ := s_ok_inj hst; subst e1; subst e2; subst e3; exact sn_ldc hB (hG.word (k4w_all (mC mi) h19 _ hc) rfl hB.2.2.2.2.1 args) hd k
  · have hst : s_ok L (.int (-(nI r1)) :: st) M = _ := hst
    simp only [okI, Bool.and_eq_true, decide_eq_true_eq] at hok
    obtain ⟨rfl, hc, -⟩ := hok
    obtain ⟨e1, e2, e3⟩ := s_ok_inj hst; subst e1; subst e2; subst e3; exact sn_ldc hB (hG.word (k4w_all (mC mi) h19 _ hc) rfl hB.2.2.2.2.1 args) hd k
  · have hst : s_ok L (.float (UInt32.ofNat r1) :: st) M = _ := hst
    simp only [okI, Bool.and_eq_true, decide_eq_true_eq] at hok
    obtain ⟨rfl, h22, hc⟩ := hok
    obtain ⟨e1, e2, e3⟩ := s_ok_inj hst; subst e1; subst e2; subst e3;
    cases hq : sttL[r1]? with
    | none => rw [hq] at hc; cases hc
    | some q =>
      rw [hq] at hc
      simp only [Bool.and_eq_true, decide_eq_true_eq] at hc
      obtain ⟨g1, g2⟩ := hc
      have h1 := hS r1 q hq (args := args) hB.2.2.2.2.1
      rw [g1, g2] at h1
      have e : (UInt32.ofNat r1).toNat = r1 := by show (BitVec.ofNat 32 r1).toNat = r1; rw [BitVec.toNat_ofNat]; exact Nat.mod_eq_of_lt (Nat.lt_trans h22 (by decide))
      exact sn_ldcs (SA := SA) (x := UInt32.ofNat r1) hB (by rw [e]; exact h1) hd k
  · simp only [okI, Bool.and_eq_true, decide_eq_true_eq] at hok
    omega
theorem st_ldc_w {i : Nat} (hG : GG s0 D cy) (hB : BB s0 p s m meth c mi) (h19 : mC mi < 19) (hd : decode (mt mi).2.1 pc = .ok (.ldc_w i, len)) (hok : okI mi bk pc (.ldc_w i, r1, r2, r3) len = true) (hst : stp cal X swt bk (.ldc_w i, r1, r2, r3) L st M = some (.inl (L', st', M'))) (k : WP p l e R s m args below meth c Q D cy B H0 SA mi n0 z0 (pc + len) (L') (st') (M')) : WP p l e R s m args below meth c Q D cy B H0 SA mi n0 z0 (pc) (L) (st) (M) := by
  simp only [okI, Bool.and_eq_true, decide_eq_true_eq] at hok
  obtain ⟨⟨rfl, hc⟩, h2⟩ := hok
  rcases r2 with _ | _ | r2
  · have hst : s_ok L (.int (nI r1) :: st) M = _ := hst
    obtain ⟨e1, e2, e3⟩ := s_ok_inj hst; subst e1; subst e2; subst e3; exact sn_ldc_w hB (hG.word (k4w_all (mC mi) h19 _ hc) rfl hB.2.2.2.2.1 args) hd k
  · have hst : s_ok L (.int (-(nI r1)) :: st) M = _ := hst
    obtain ⟨e1, e2, e3⟩ := s_ok_inj hst; subst e1; subst e2; subst e3; exact sn_ldc_w hB (hG.word (k4w_all (mC mi) h19 _ hc) rfl hB.2.2.2.2.1 args) hd k
  · omega
theorem st_lconst {n : Fin 2} (hG : GG s0 D cy) (hB : BB s0 p s m meth c mi) (h19 : mC mi < 19) (hd : decode (mt mi).2.1 pc = .ok (.lconst n, len)) (hok : okI mi bk pc (.lconst n, r1, r2, r3) len = true) (hst : stp cal X swt bk (.lconst n, r1, r2, r3) L st M = some (.inl (L', st', M'))) (k : WP p l e R s m args below meth c Q D cy B H0 SA mi n0 z0 (pc + len) (L') (st') (M')) : WP p l e R s m args below meth c Q D cy B H0 SA mi n0 z0 (pc) (L) (st) (M) := by
  simp only [okI, Bool.and_eq_true, decide_eq_true_eq] at hok
  obtain ⟨⟨rfl, rfl⟩, hc⟩ := hok
  have hst : s_ok L (.long (lN r1) :: st) M = _ := hst
  obtain ⟨e1, e2, e3⟩ := s_ok_inj hst; subst e1; subst e2; subst e3; exact sn_lconst hB hc hd k
theorem st_ldc2_w {i : Nat} (hG : GG s0 D cy) (hB : BB s0 p s m meth c mi) (h19 : mC mi < 19) (hd : decode (mt mi).2.1 pc = .ok (.ldc2_w i, len)) (hok : okI mi bk pc (.ldc2_w i, r1, r2, r3) len = true) (hst : stp cal X swt bk (.ldc2_w i, r1, r2, r3) L st M = some (.inl (L', st', M'))) (k : WP p l e R s m args below meth c Q D cy B H0 SA mi n0 z0 (pc + len) (L') (st') (M')) : WP p l e R s m args below meth c Q D cy B H0 SA mi n0 z0 (pc) (L) (st) (M) := by
  simp only [okI, Bool.and_eq_true, decide_eq_true_eq] at hok
  obtain ⟨rfl, hc⟩ := hok
  rcases r2 with _ | r2
  · have hst : s_ok L (.long (lN r1) :: st) M = _ := hst
    obtain ⟨e1, e2, e3⟩ := s_ok_inj hst; subst e1; subst e2; subst e3; exact sn_ldc2 hB (hG.word (k8w_all (mC mi) h19 _ hc) rfl hB.2.2.2.2.1 args) hd k
  · have hst : s_ok L (.long (-(lN r1)) :: st) M = _ := hst
    obtain ⟨e1, e2, e3⟩ := s_ok_inj hst; subst e1; subst e2; subst e3; exact sn_ldc2 hB (hG.word (k8w_all (mC mi) h19 _ hc) rfl hB.2.2.2.2.1 args) hd k
theorem st_iload {i : Nat} (hG : GG s0 D cy) (hB : BB s0 p s m meth c mi) (h19 : mC mi < 19) (hd : decode (mt mi).2.1 pc = .ok (.iload i, len)) (hok : okI mi bk pc (.iload i, r1, r2, r3) len = true) (hst : stp cal X swt bk (.iload i, r1, r2, r3) L st M = some (.inl (L', st', M'))) (k : WP p l e R s m args below meth c Q D cy B H0 SA mi n0 z0 (pc + len) (L') (st') (M')) : WP p l e R s m args below meth c Q D cy B H0 SA mi n0 z0 (pc) (L) (st) (M) := by
  simp only [okI, Bool.and_eq_true, decide_eq_true_eq] at hok
  obtain ⟨rfl, rfl⟩ := hok
  simp only [stp] at hst
  split at hst
  · next x hx => obtain ⟨e1, e2, e3⟩ := s_ok_inj hst; subst e1; subst e2; subst e3; exact sn_iload hB hx hd k
  · cases hst
theorem st_iload_n {i : Fin 4} (hG : GG s0 D cy) (hB : BB s0 p s m meth c mi) (h19 : mC mi < 19) (hd : decode (mt mi).2.1 pc = .ok (.iload_n i, len)) (hok : okI mi bk pc (.iload_n i, r1, r2, r3) len = true) (hst : stp cal X swt bk (.iload_n i, r1, r2, r3) L st M = some (.inl (L', st', M'))) (k : WP p l e R s m args below meth c Q D cy B H0 SA mi n0 z0 (pc + len) (L') (st') (M')) : WP p l e R s m args below meth c Q D cy B H0 SA mi n0 z0 (pc) (L) (st) (M) := by
  simp only [okI, Bool.and_eq_true, decide_eq_true_eq] at hok
  obtain ⟨rfl, rfl⟩ := hok
  simp only [stp] at hst
  split at hst
  · next x hx => obtain ⟨e1, e2, e3⟩ := s_ok_inj hst; subst e1; subst e2; subst e3; exact sn_iload_n hB rfl hx hd k
  · cases hst
theorem st_lload {i : Nat} (hG : GG s0 D cy) (hB : BB s0 p s m meth c mi) (h19 : mC mi < 19) (hd : decode (mt mi).2.1 pc = .ok (.lload i, len)) (hok : okI mi bk pc (.lload i, r1, r2, r3) len = true) (hst : stp cal X swt bk (.lload i, r1, r2, r3) L st M = some (.inl (L', st', M'))) (k : WP p l e R s m args below meth c Q D cy B H0 SA mi n0 z0 (pc + len) (L') (st') (M')) : WP p l e R s m args below meth c Q D cy B H0 SA mi n0 z0 (pc) (L) (st) (M) := by
  simp only [okI, Bool.and_eq_true, decide_eq_true_eq] at hok
  obtain ⟨rfl, rfl⟩ := hok
  simp only [stp] at hst
  split at hst
  · next x hx => obtain ⟨e1, e2, e3⟩ := s_ok_inj hst; subst e1; subst e2; subst e3; exact sn_lload hB hx hd k
  · cases hst
theorem st_lload_n {i : Fin 4} (hG : GG s0 D cy) (hB : BB s0 p s m meth c mi) (h19 : mC mi < 19) (hd : decode (mt mi).2.1 pc = .ok (.lload_n i, len)) (hok : okI mi bk pc (.lload_n i, r1, r2, r3) len = true) (hst : stp cal X swt bk (.lload_n i, r1, r2, r3) L st M = some (.inl (L', st', M'))) (k : WP p l e R s m args below meth c Q D cy B H0 SA mi n0 z0 (pc + len) (L') (st') (M')) : WP p l e R s m args below meth c Q D cy B H0 SA mi n0 z0 (pc) (L) (st) (M) := by
  simp only [okI, Bool.and_eq_true, decide_eq_true_eq] at hok
  obtain ⟨rfl, rfl⟩ := hok
  simp only [stp] at hst
  split at hst
  · next x hx => obtain ⟨e1, e2, e3⟩ := s_ok_inj hst; subst e1; subst e2; subst e3; exact sn_lload_n hB rfl hx hd k
  · cases hst
theorem st_aload {i : Nat} (hG : GG s0 D cy) (hB : BB s0 p s m meth c mi) (h19 : mC mi < 19) (hd : decode (mt mi).2.1 pc = .ok (.aload i, len)) (hok : okI mi bk pc (.aload i, r1, r2, r3) len = true) (hst : stp cal X swt bk (.aload i, r1, r2, r3) L st M = some (.inl (L', st', M'))) (k : WP p l e R s m args below meth c Q D cy B H0 SA mi n0 z0 (pc + len) (L') (st') (M')) : WP p l e R s m args below meth c Q D cy B H0 SA mi n0 z0 (pc) (L) (st) (M) := by
  simp only [okI, Bool.and_eq_true, decide_eq_true_eq] at hok
  obtain ⟨rfl, rfl⟩ := hok
  simp only [stp] at hst
  split at hst
  · next x hx => obtain ⟨e1, e2, e3⟩ := s_ok_inj hst; subst e1; subst e2; subst e3; exact sn_aloadr hB hx hd k
  · next x hx => obtain ⟨e1, e2, e3⟩ := s_ok_inj hst; subst e1; subst e2; subst e3; exact sn_aloadf hB hx hd k
  · cases hst
theorem st_aload_n {i : Fin 4} (hG : GG s0 D cy) (hB : BB s0 p s m meth c mi) (h19 : mC mi < 19) (hd : decode (mt mi).2.1 pc = .ok (.aload_n i, len)) (hok : okI mi bk pc (.aload_n i, r1, r2, r3) len = true) (hst : stp cal X swt bk (.aload_n i, r1, r2, r3) L st M = some (.inl (L', st', M'))) (k : WP p l e R s m args below meth c Q D cy B H0 SA mi n0 z0 (pc + len) (L') (st') (M')) : WP p l e R s m args below meth c Q D cy B H0 SA mi n0 z0 (pc) (L) (st) (M) := by
  simp only [okI, Bool.and_eq_true, decide_eq_true_eq] at hok
  obtain ⟨rfl, rfl⟩ := hok
  simp only [stp] at hst
  split at hst
  · next x hx => obtain ⟨e1, e2, e3⟩ := s_ok_inj hst; subst e1; subst e2; subst e3; exact sn_aloadr_n hB rfl hx hd k
  · next x hx => obtain ⟨e1, e2, e3⟩ := s_ok_inj hst; subst e1; subst e2; subst e3; exact sn_aloadf_n hB rfl hx hd k
  · cases hst
theorem st_istore {i : Nat} (hG : GG s0 D cy) (hB : BB s0 p s m meth c mi) (h19 : mC mi < 19) (hd : decode (mt mi).2.1 pc = .ok (.istore i, len)) (hok : okI mi bk pc (.istore i, r1, r2, r3) len = true) (hst : stp cal X swt bk (.istore i, r1, r2, r3) L st M = some (.inl (L', st', M'))) (k : WP p l e R s m args below meth c Q D cy B H0 SA mi n0 z0 (pc + len) (L') (st') (M')) : WP p l e R s m args below meth c Q D cy B H0 SA mi n0 z0 (pc) (L) (st) (M) := by
  simp only [okI, Bool.and_eq_true, decide_eq_true_eq] at hok
  obtain ⟨⟨rfl, rfl⟩, hi⟩ := hok
  simp only [stp] at hst
  split at hst
  · obtain ⟨e1, e2, e3⟩ := s_ok_inj hst; subst e1; subst e2; subst e3; exact sn_istore hB hi hd k
  · cases hst
theorem st_istore_n {i : Fin 4} (hG : GG s0 D cy) (hB : BB s0 p s m meth c mi) (h19 : mC mi < 19) (hd : decode (mt mi).2.1 pc = .ok (.istore_n i, len)) (hok : okI mi bk pc (.istore_n i, r1, r2, r3) len = true) (hst : stp cal X swt bk (.istore_n i, r1, r2, r3) L st M = some (.inl (L', st', M'))) (k : WP p l e R s m args below meth c Q D cy B H0 SA mi n0 z0 (pc + len) (L') (st') (M')) : WP p l e R s m args below meth c Q D cy B H0 SA mi n0 z0 (pc) (L) (st) (M) := by
  simp only [okI, Bool.and_eq_true, decide_eq_true_eq] at hok
  obtain ⟨⟨rfl, rfl⟩, hi⟩ := hok
  simp only [stp] at hst
  split at hst
  · obtain ⟨e1, e2, e3⟩ := s_ok_inj hst; subst e1; subst e2; subst e3; exact sn_istore_n hB rfl hi hd k
  · cases hst
theorem st_astore {i : Nat} (hG : GG s0 D cy) (hB : BB s0 p s m meth c mi) (h19 : mC mi < 19) (hd : decode (mt mi).2.1 pc = .ok (.astore i, len)) (hok : okI mi bk pc (.astore i, r1, r2, r3) len = true) (hst : stp cal X swt bk (.astore i, r1, r2, r3) L st M = some (.inl (L', st', M'))) (k : WP p l e R s m args below meth c Q D cy B H0 SA mi n0 z0 (pc + len) (L') (st') (M')) : WP p l e R s m args below meth c Q D cy B H0 SA mi n0 z0 (pc) (L) (st) (M) := by
  simp only [okI, Bool.and_eq_true, decide_eq_true_eq] at hok
  obtain ⟨⟨rfl, rfl⟩, hi⟩ := hok
  simp only [stp] at hst
  split at hst
  · obtain ⟨e1, e2, e3⟩ := s_ok_inj hst; subst e1; subst e2; subst e3; exact sn_astore hB hi hd k
  · cases hst
theorem st_astore_n {i : Fin 4} (hG : GG s0 D cy) (hB : BB s0 p s m meth c mi) (h19 : mC mi < 19) (hd : decode (mt mi).2.1 pc = .ok (.astore_n i, len)) (hok : okI mi bk pc (.astore_n i, r1, r2, r3) len = true) (hst : stp cal X swt bk (.astore_n i, r1, r2, r3) L st M = some (.inl (L', st', M'))) (k : WP p l e R s m args below meth c Q D cy B H0 SA mi n0 z0 (pc + len) (L') (st') (M')) : WP p l e R s m args below meth c Q D cy B H0 SA mi n0 z0 (pc) (L) (st) (M) := by
  simp only [okI, Bool.and_eq_true, decide_eq_true_eq] at hok
  obtain ⟨⟨rfl, rfl⟩, hi⟩ := hok
  simp only [stp] at hst
  split at hst
  · obtain ⟨e1, e2, e3⟩ := s_ok_inj hst; subst e1; subst e2; subst e3; exact sn_astore_n hB rfl hi hd k
  · cases hst
theorem st_lstore {i : Nat} (hG : GG s0 D cy) (hB : BB s0 p s m meth c mi) (h19 : mC mi < 19) (hd : decode (mt mi).2.1 pc = .ok (.lstore i, len)) (hok : okI mi bk pc (.lstore i, r1, r2, r3) len = true) (hst : stp cal X swt bk (.lstore i, r1, r2, r3) L st M = some (.inl (L', st', M'))) (k : WP p l e R s m args below meth c Q D cy B H0 SA mi n0 z0 (pc + len) (L') (st') (M')) : WP p l e R s m args below meth c Q D cy B H0 SA mi n0 z0 (pc) (L) (st) (M) := by
  simp only [okI, Bool.and_eq_true, decide_eq_true_eq] at hok
  obtain ⟨⟨rfl, rfl⟩, hi⟩ := hok
  simp only [stp] at hst
  split at hst
  · obtain ⟨e1, e2, e3⟩ := s_ok_inj hst; subst e1; subst e2; subst e3; exact sn_lstore hB hi hd k
  · cases hst
theorem st_lstore_n {i : Fin 4} (hG : GG s0 D cy) (hB : BB s0 p s m meth c mi) (h19 : mC mi < 19) (hd : decode (mt mi).2.1 pc = .ok (.lstore_n i, len)) (hok : okI mi bk pc (.lstore_n i, r1, r2, r3) len = true) (hst : stp cal X swt bk (.lstore_n i, r1, r2, r3) L st M = some (.inl (L', st', M'))) (k : WP p l e R s m args below meth c Q D cy B H0 SA mi n0 z0 (pc + len) (L') (st') (M')) : WP p l e R s m args below meth c Q D cy B H0 SA mi n0 z0 (pc) (L) (st) (M) := by
  simp only [okI, Bool.and_eq_true, decide_eq_true_eq] at hok
  obtain ⟨⟨rfl, rfl⟩, hi⟩ := hok
  simp only [stp] at hst
  split at hst
  · obtain ⟨e1, e2, e3⟩ := s_ok_inj hst; subst e1; subst e2; subst e3; exact sn_lstore_n hB rfl hi hd k
  · cases hst
theorem st_iinc {i : Nat} {n : Int} (hG : GG s0 D cy) (hB : BB s0 p s m meth c mi) (h19 : mC mi < 19) (hd : decode (mt mi).2.1 pc = .ok (.iinc i n, len)) (hok : okI mi bk pc (.iinc i n, r1, r2, r3) len = true) (hst : stp cal X swt bk (.iinc i n, r1, r2, r3) L st M = some (.inl (L', st', M'))) (k : WP p l e R s m args below meth c Q D cy B H0 SA mi n0 z0 (pc + len) (L') (st') (M')) : WP p l e R s m args below meth c Q D cy B H0 SA mi n0 z0 (pc) (L) (st) (M) := by
  simp only [okI, Bool.and_eq_true, decide_eq_true_eq] at hok
  obtain ⟨⟨⟨rfl, rfl⟩, hi⟩, hc⟩ := hok
  simp only [stp] at hst
  split at hst
  · next x hx =>
    rcases r3 with _ | r3
    · have hst : s_ok (lst1 L i (.int (x + nI r2))) st M = _ := hst
      have hc : Int32.ofInt n = nI r2 := of_decide_eq_true hc
      obtain ⟨e1, e2, e3⟩ := s_ok_inj hst; subst e1; subst e2; subst e3; exact sn_iinc hB hx (by rw [hc]) hi hd k
    · have hst : s_ok (lst1 L i (.int (x - nI r2))) st M = _ := hst
      have hc : Int32.ofInt n = -(nI r2) := of_decide_eq_true hc
      obtain ⟨e1, e2, e3⟩ := s_ok_inj hst; subst e1; subst e2; subst e3; exact sn_iinc hB hx (by rw [hc]; exact (Int32.sub_eq_add_neg x (nI r2)).symm) hi hd k
  · cases hst
theorem st_iadd (hG : GG s0 D cy) (hB : BB s0 p s m meth c mi) (h19 : mC mi < 19) (hd : decode (mt mi).2.1 pc = .ok (.iadd, len)) (hok : okI mi bk pc (.iadd, r1, r2, r3) len = true) (hst : stp cal X swt bk (.iadd, r1, r2, r3) L st M = some (.inl (L', st', M'))) (k : WP p l e R s m args below meth c Q D cy B H0 SA mi n0 z0 (pc + len) (L') (st') (M')) : WP p l e R s m args below meth c Q D cy B H0 SA mi n0 z0 (pc) (L) (st) (M) := by
  have hl : len = 1 := of_decide_eq_true hok
  subst hl
  simp only [stp] at hst
  split at hst
  · obtain ⟨e1, e2, e3⟩ := s_ok_inj hst; subst e1; subst e2; subst e3; exact sn_iadd hB hd k
  · cases hst
theorem st_isub (hG : GG s0 D cy) (hB : BB s0 p s m meth c mi) (h19 : mC mi < 19) (hd : decode (mt mi).2.1 pc = .ok (.isub, len)) (hok : okI mi bk pc (.isub, r1, r2, r3) len = true) (hst : stp cal X swt bk (.isub, r1, r2, r3) L st M = some (.inl (L', st', M'))) (k : WP p l e R s m args below meth c Q D cy B H0 SA mi n0 z0 (pc + len) (L') (st') (M')) : WP p l e R s m args below meth c Q D cy B H0 SA mi n0 z0 (pc) (L) (st) (M) := by
  have hl : len = 1 := of_decide_eq_true hok
  subst hl
  simp only [stp] at hst
  split at hst
  · obtain ⟨e1, e2, e3⟩ := s_ok_inj hst; subst e1; subst e2; subst e3; exact sn_isub hB hd k
  · cases hst
theorem st_imul (hG : GG s0 D cy) (hB : BB s0 p s m meth c mi) (h19 : mC mi < 19) (hd : decode (mt mi).2.1 pc = .ok (.imul, len)) (hok : okI mi bk pc (.imul, r1, r2, r3) len = true) (hst : stp cal X swt bk (.imul, r1, r2, r3) L st M = some (.inl (L', st', M'))) (k : WP p l e R s m args below meth c Q D cy B H0 SA mi n0 z0 (pc + len) (L') (st') (M')) : WP p l e R s m args below meth c Q D cy B H0 SA mi n0 z0 (pc) (L) (st) (M) := by
  have hl : len = 1 := of_decide_eq_true hok
  subst hl
  simp only [stp] at hst
  split at hst
  · obtain ⟨e1, e2, e3⟩ := s_ok_inj hst; subst e1; subst e2; subst e3; exact sn_imul hB hd k
  · cases hst
theorem st_iand (hG : GG s0 D cy) (hB : BB s0 p s m meth c mi) (h19 : mC mi < 19) (hd : decode (mt mi).2.1 pc = .ok (.iand, len)) (hok : okI mi bk pc (.iand, r1, r2, r3) len = true) (hst : stp cal X swt bk (.iand, r1, r2, r3) L st M = some (.inl (L', st', M'))) (k : WP p l e R s m args below meth c Q D cy B H0 SA mi n0 z0 (pc + len) (L') (st') (M')) : WP p l e R s m args below meth c Q D cy B H0 SA mi n0 z0 (pc) (L) (st) (M) := by
  have hl : len = 1 := of_decide_eq_true hok
  subst hl
  simp only [stp] at hst
  split at hst
  · obtain ⟨e1, e2, e3⟩ := s_ok_inj hst; subst e1; subst e2; subst e3; exact sn_iand hB hd k
  · cases hst
theorem st_ior (hG : GG s0 D cy) (hB : BB s0 p s m meth c mi) (h19 : mC mi < 19) (hd : decode (mt mi).2.1 pc = .ok (.ior, len)) (hok : okI mi bk pc (.ior, r1, r2, r3) len = true) (hst : stp cal X swt bk (.ior, r1, r2, r3) L st M = some (.inl (L', st', M'))) (k : WP p l e R s m args below meth c Q D cy B H0 SA mi n0 z0 (pc + len) (L') (st') (M')) : WP p l e R s m args below meth c Q D cy B H0 SA mi n0 z0 (pc) (L) (st) (M) := by
  have hl : len = 1 := of_decide_eq_true hok
  subst hl
  simp only [stp] at hst
  split at hst
  · obtain ⟨e1, e2, e3⟩ := s_ok_inj hst; subst e1; subst e2; subst e3; exact sn_ior hB hd k
  · cases hst
theorem st_ixor (hG : GG s0 D cy) (hB : BB s0 p s m meth c mi) (h19 : mC mi < 19) (hd : decode (mt mi).2.1 pc = .ok (.ixor, len)) (hok : okI mi bk pc (.ixor, r1, r2, r3) len = true) (hst : stp cal X swt bk (.ixor, r1, r2, r3) L st M = some (.inl (L', st', M'))) (k : WP p l e R s m args below meth c Q D cy B H0 SA mi n0 z0 (pc + len) (L') (st') (M')) : WP p l e R s m args below meth c Q D cy B H0 SA mi n0 z0 (pc) (L) (st) (M) := by
  have hl : len = 1 := of_decide_eq_true hok
  subst hl
  simp only [stp] at hst
  split at hst
  · obtain ⟨e1, e2, e3⟩ := s_ok_inj hst; subst e1; subst e2; subst e3; exact sn_ixor hB hd k
  · cases hst
theorem st_ineg (hG : GG s0 D cy) (hB : BB s0 p s m meth c mi) (h19 : mC mi < 19) (hd : decode (mt mi).2.1 pc = .ok (.ineg, len)) (hok : okI mi bk pc (.ineg, r1, r2, r3) len = true) (hst : stp cal X swt bk (.ineg, r1, r2, r3) L st M = some (.inl (L', st', M'))) (k : WP p l e R s m args below meth c Q D cy B H0 SA mi n0 z0 (pc + len) (L') (st') (M')) : WP p l e R s m args below meth c Q D cy B H0 SA mi n0 z0 (pc) (L) (st) (M) := by
  have hl : len = 1 := of_decide_eq_true hok
  subst hl
  simp only [stp] at hst
  split at hst
  · obtain ⟨e1, e2, e3⟩ := s_ok_inj hst; subst e1; subst e2; subst e3; exact sn_ineg hB hd k
  · cases hst
theorem st_ishl (hG : GG s0 D cy) (hB : BB s0 p s m meth c mi) (h19 : mC mi < 19) (hd : decode (mt mi).2.1 pc = .ok (.ishl, len)) (hok : okI mi bk pc (.ishl, r1, r2, r3) len = true) (hst : stp cal X swt bk (.ishl, r1, r2, r3) L st M = some (.inl (L', st', M'))) (k : WP p l e R s m args below meth c Q D cy B H0 SA mi n0 z0 (pc + len) (L') (st') (M')) : WP p l e R s m args below meth c Q D cy B H0 SA mi n0 z0 (pc) (L) (st) (M) := by
  have hl : len = 1 := of_decide_eq_true hok
  subst hl
  simp only [stp] at hst
  split at hst
  · obtain ⟨e1, e2, e3⟩ := s_ok_inj hst; subst e1; subst e2; subst e3; exact sn_ishl hB hd k
  · cases hst
theorem st_ishr (hG : GG s0 D cy) (hB : BB s0 p s m meth c mi) (h19 : mC mi < 19) (hd : decode (mt mi).2.1 pc = .ok (.ishr, len)) (hok : okI mi bk pc (.ishr, r1, r2, r3) len = true) (hst : stp cal X swt bk (.ishr, r1, r2, r3) L st M = some (.inl (L', st', M'))) (k : WP p l e R s m args below meth c Q D cy B H0 SA mi n0 z0 (pc + len) (L') (st') (M')) : WP p l e R s m args below meth c Q D cy B H0 SA mi n0 z0 (pc) (L) (st) (M) := by
  have hl : len = 1 := of_decide_eq_true hok
  subst hl
  simp only [stp] at hst
  split at hst
  · obtain ⟨e1, e2, e3⟩ := s_ok_inj hst; subst e1; subst e2; subst e3; exact sn_ishr hB hd k
  · cases hst
theorem st_iushr (hG : GG s0 D cy) (hB : BB s0 p s m meth c mi) (h19 : mC mi < 19) (hd : decode (mt mi).2.1 pc = .ok (.iushr, len)) (hok : okI mi bk pc (.iushr, r1, r2, r3) len = true) (hst : stp cal X swt bk (.iushr, r1, r2, r3) L st M = some (.inl (L', st', M'))) (k : WP p l e R s m args below meth c Q D cy B H0 SA mi n0 z0 (pc + len) (L') (st') (M')) : WP p l e R s m args below meth c Q D cy B H0 SA mi n0 z0 (pc) (L) (st) (M) := by
  have hl : len = 1 := of_decide_eq_true hok
  subst hl
  simp only [stp] at hst
  split at hst
  · obtain ⟨e1, e2, e3⟩ := s_ok_inj hst; subst e1; subst e2; subst e3; exact sn_iushr hB hd k
  · cases hst
theorem st_ladd (hG : GG s0 D cy) (hB : BB s0 p s m meth c mi) (h19 : mC mi < 19) (hd : decode (mt mi).2.1 pc = .ok (.ladd, len)) (hok : okI mi bk pc (.ladd, r1, r2, r3) len = true) (hst : stp cal X swt bk (.ladd, r1, r2, r3) L st M = some (.inl (L', st', M'))) (k : WP p l e R s m args below meth c Q D cy B H0 SA mi n0 z0 (pc + len) (L') (st') (M')) : WP p l e R s m args below meth c Q D cy B H0 SA mi n0 z0 (pc) (L) (st) (M) := by
  have hl : len = 1 := of_decide_eq_true hok
  subst hl
  simp only [stp] at hst
  split at hst
  · obtain ⟨e1, e2, e3⟩ := s_ok_inj hst; subst e1; subst e2; subst e3; exact sn_ladd hB hd k
  · cases hst
theorem st_lsub (hG : GG s0 D cy) (hB : BB s0 p s m meth c mi) (h19 : mC mi < 19) (hd : decode (mt mi).2.1 pc = .ok (.lsub, len)) (hok : okI mi bk pc (.lsub, r1, r2, r3) len = true) (hst : stp cal X swt bk (.lsub, r1, r2, r3) L st M = some (.inl (L', st', M'))) (k : WP p l e R s m args below meth c Q D cy B H0 SA mi n0 z0 (pc + len) (L') (st') (M')) : WP p l e R s m args below meth c Q D cy B H0 SA mi n0 z0 (pc) (L) (st) (M) := by
  have hl : len = 1 := of_decide_eq_true hok
  subst hl
  simp only [stp] at hst
  split at hst
  · obtain ⟨e1, e2, e3⟩ := s_ok_inj hst; subst e1; subst e2; subst e3; exact sn_lsub hB hd k
  · cases hst
theorem st_lmul (hG : GG s0 D cy) (hB : BB s0 p s m meth c mi) (h19 : mC mi < 19) (hd : decode (mt mi).2.1 pc = .ok (.lmul, len)) (hok : okI mi bk pc (.lmul, r1, r2, r3) len = true) (hst : stp cal X swt bk (.lmul, r1, r2, r3) L st M = some (.inl (L', st', M'))) (k : WP p l e R s m args below meth c Q D cy B H0 SA mi n0 z0 (pc + len) (L') (st') (M')) : WP p l e R s m args below meth c Q D cy B H0 SA mi n0 z0 (pc) (L) (st) (M) := by
  have hl : len = 1 := of_decide_eq_true hok
  subst hl
  simp only [stp] at hst
  split at hst
  · obtain ⟨e1, e2, e3⟩ := s_ok_inj hst; subst e1; subst e2; subst e3; exact sn_lmul hB hd k
  · cases hst
theorem st_land (hG : GG s0 D cy) (hB : BB s0 p s m meth c mi) (h19 : mC mi < 19) (hd : decode (mt mi).2.1 pc = .ok (.land, len)) (hok : okI mi bk pc (.land, r1, r2, r3) len = true) (hst : stp cal X swt bk (.land, r1, r2, r3) L st M = some (.inl (L', st', M'))) (k : WP p l e R s m args below meth c Q D cy B H0 SA mi n0 z0 (pc + len) (L') (st') (M')) : WP p l e R s m args below meth c Q D cy B H0 SA mi n0 z0 (pc) (L) (st) (M) := by
  have hl : len = 1 := of_decide_eq_true hok
  subst hl
  simp only [stp] at hst
  split at hst
  · obtain ⟨e1, e2, e3⟩ := s_ok_inj hst; subst e1; subst e2; subst e3; exact sn_land hB hd k
  · cases hst
theorem st_lor (hG : GG s0 D cy) (hB : BB s0 p s m meth c mi) (h19 : mC mi < 19) (hd : decode (mt mi).2.1 pc = .ok (.lor, len)) (hok : okI mi bk pc (.lor, r1, r2, r3) len = true) (hst : stp cal X swt bk (.lor, r1, r2, r3) L st M = some (.inl (L', st', M'))) (k : WP p l e R s m args below meth c Q D cy B H0 SA mi n0 z0 (pc + len) (L') (st') (M')) : WP p l e R s m args below meth c Q D cy B H0 SA mi n0 z0 (pc) (L) (st) (M) := by
  have hl : len = 1 := of_decide_eq_true hok
  subst hl
  simp only [stp] at hst
  split at hst
  · obtain ⟨e1, e2, e3⟩ := s_ok_inj hst; subst e1; subst e2; subst e3; exact sn_lor hB hd k
  · cases hst
theorem st_lxor (hG : GG s0 D cy) (hB : BB s0 p s m meth c mi) (h19 : mC mi < 19) (hd : decode (mt mi).2.1 pc = .ok (.lxor, len)) (hok : okI mi bk pc (.lxor, r1, r2, r3) len = true) (hst : stp cal X swt bk (.lxor, r1, r2, r3) L st M = some (.inl (L', st', M'))) (k : WP p l e R s m args below meth c Q D cy B H0 SA mi n0 z0 (pc + len) (L') (st') (M')) : WP p l e R s m args below meth c Q D cy B H0 SA mi n0 z0 (pc) (L) (st) (M) := by
  have hl : len = 1 := of_decide_eq_true hok
  subst hl
  simp only [stp] at hst
  split at hst
  · obtain ⟨e1, e2, e3⟩ := s_ok_inj hst; subst e1; subst e2; subst e3; exact sn_lxor hB hd k
  · cases hst
theorem st_lneg (hG : GG s0 D cy) (hB : BB s0 p s m meth c mi) (h19 : mC mi < 19) (hd : decode (mt mi).2.1 pc = .ok (.lneg, len)) (hok : okI mi bk pc (.lneg, r1, r2, r3) len = true) (hst : stp cal X swt bk (.lneg, r1, r2, r3) L st M = some (.inl (L', st', M'))) (k : WP p l e R s m args below meth c Q D cy B H0 SA mi n0 z0 (pc + len) (L') (st') (M')) : WP p l e R s m args below meth c Q D cy B H0 SA mi n0 z0 (pc) (L) (st) (M) := by
  have hl : len = 1 := of_decide_eq_true hok
  subst hl
  simp only [stp] at hst
  split at hst
  · obtain ⟨e1, e2, e3⟩ := s_ok_inj hst; subst e1; subst e2; subst e3; exact sn_lneg hB hd k
  · cases hst
theorem st_lshl (hG : GG s0 D cy) (hB : BB s0 p s m meth c mi) (h19 : mC mi < 19) (hd : decode (mt mi).2.1 pc = .ok (.lshl, len)) (hok : okI mi bk pc (.lshl, r1, r2, r3) len = true) (hst : stp cal X swt bk (.lshl, r1, r2, r3) L st M = some (.inl (L', st', M'))) (k : WP p l e R s m args below meth c Q D cy B H0 SA mi n0 z0 (pc + len) (L') (st') (M')) : WP p l e R s m args below meth c Q D cy B H0 SA mi n0 z0 (pc) (L) (st) (M) := by
  have hl : len = 1 := of_decide_eq_true hok
  subst hl
  simp only [stp] at hst
  split at hst
  · obtain ⟨e1, e2, e3⟩ := s_ok_inj hst; subst e1; subst e2; subst e3; exact sn_lshl hB hd k
  · cases hst
theorem st_lushr (hG : GG s0 D cy) (hB : BB s0 p s m meth c mi) (h19 : mC mi < 19) (hd : decode (mt mi).2.1 pc = .ok (.lushr, len)) (hok : okI mi bk pc (.lushr, r1, r2, r3) len = true) (hst : stp cal X swt bk (.lushr, r1, r2, r3) L st M = some (.inl (L', st', M'))) (k : WP p l e R s m args below meth c Q D cy B H0 SA mi n0 z0 (pc + len) (L') (st') (M')) : WP p l e R s m args below meth c Q D cy B H0 SA mi n0 z0 (pc) (L) (st) (M) := by
  have hl : len = 1 := of_decide_eq_true hok
  subst hl
  simp only [stp] at hst
  split at hst
  · obtain ⟨e1, e2, e3⟩ := s_ok_inj hst; subst e1; subst e2; subst e3; exact sn_lushr hB hd k
  · cases hst
theorem st_lcmp (hG : GG s0 D cy) (hB : BB s0 p s m meth c mi) (h19 : mC mi < 19) (hd : decode (mt mi).2.1 pc = .ok (.lcmp, len)) (hok : okI mi bk pc (.lcmp, r1, r2, r3) len = true) (hst : stp cal X swt bk (.lcmp, r1, r2, r3) L st M = some (.inl (L', st', M'))) (k : WP p l e R s m args below meth c Q D cy B H0 SA mi n0 z0 (pc + len) (L') (st') (M')) : WP p l e R s m args below meth c Q D cy B H0 SA mi n0 z0 (pc) (L) (st) (M) := by
  have hl : len = 1 := of_decide_eq_true hok
  subst hl
  simp only [stp] at hst
  split at hst
  · obtain ⟨e1, e2, e3⟩ := s_ok_inj hst; subst e1; subst e2; subst e3; exact sn_lcmp hB hd k
  · cases hst
theorem st_i2l (hG : GG s0 D cy) (hB : BB s0 p s m meth c mi) (h19 : mC mi < 19) (hd : decode (mt mi).2.1 pc = .ok (.i2l, len)) (hok : okI mi bk pc (.i2l, r1, r2, r3) len = true) (hst : stp cal X swt bk (.i2l, r1, r2, r3) L st M = some (.inl (L', st', M'))) (k : WP p l e R s m args below meth c Q D cy B H0 SA mi n0 z0 (pc + len) (L') (st') (M')) : WP p l e R s m args below meth c Q D cy B H0 SA mi n0 z0 (pc) (L) (st) (M) := by
  have hl : len = 1 := of_decide_eq_true hok
  subst hl
  simp only [stp] at hst
  split at hst
  · obtain ⟨e1, e2, e3⟩ := s_ok_inj hst; subst e1; subst e2; subst e3; exact sn_i2l hB hd k
  · cases hst
theorem st_l2i (hG : GG s0 D cy) (hB : BB s0 p s m meth c mi) (h19 : mC mi < 19) (hd : decode (mt mi).2.1 pc = .ok (.l2i, len)) (hok : okI mi bk pc (.l2i, r1, r2, r3) len = true) (hst : stp cal X swt bk (.l2i, r1, r2, r3) L st M = some (.inl (L', st', M'))) (k : WP p l e R s m args below meth c Q D cy B H0 SA mi n0 z0 (pc + len) (L') (st') (M')) : WP p l e R s m args below meth c Q D cy B H0 SA mi n0 z0 (pc) (L) (st) (M) := by
  have hl : len = 1 := of_decide_eq_true hok
  subst hl
  simp only [stp] at hst
  split at hst
  · obtain ⟨e1, e2, e3⟩ := s_ok_inj hst; subst e1; subst e2; subst e3; exact sn_l2i hB hd k
  · cases hst
theorem st_i2c (hG : GG s0 D cy) (hB : BB s0 p s m meth c mi) (h19 : mC mi < 19) (hd : decode (mt mi).2.1 pc = .ok (.i2c, len)) (hok : okI mi bk pc (.i2c, r1, r2, r3) len = true) (hst : stp cal X swt bk (.i2c, r1, r2, r3) L st M = some (.inl (L', st', M'))) (k : WP p l e R s m args below meth c Q D cy B H0 SA mi n0 z0 (pc + len) (L') (st') (M')) : WP p l e R s m args below meth c Q D cy B H0 SA mi n0 z0 (pc) (L) (st) (M) := by
  have hl : len = 1 := of_decide_eq_true hok
  subst hl
  simp only [stp] at hst
  split at hst
  · obtain ⟨e1, e2, e3⟩ := s_ok_inj hst; subst e1; subst e2; subst e3; exact sn_i2c hB hd k
  · cases hst
theorem st_dup2 (hG : GG s0 D cy) (hB : BB s0 p s m meth c mi) (h19 : mC mi < 19) (hd : decode (mt mi).2.1 pc = .ok (.dup2, len)) (hok : okI mi bk pc (.dup2, r1, r2, r3) len = true) (hst : stp cal X swt bk (.dup2, r1, r2, r3) L st M = some (.inl (L', st', M'))) (k : WP p l e R s m args below meth c Q D cy B H0 SA mi n0 z0 (pc + len) (L') (st') (M')) : WP p l e R s m args below meth c Q D cy B H0 SA mi n0 z0 (pc) (L) (st) (M) := by
  have hl : len = 1 := of_decide_eq_true hok
  subst hl
  simp only [stp] at hst
  split at hst
  · obtain ⟨e1, e2, e3⟩ := s_ok_inj hst; subst e1; subst e2; subst e3; exact sn_dup2 hB hd k
  · cases hst
theorem st_idiv (hG : GG s0 D cy) (hB : BB s0 p s m meth c mi) (h19 : mC mi < 19) (hd : decode (mt mi).2.1 pc = .ok (.idiv, len)) (hok : okI mi bk pc (.idiv, r1, r2, r3) len = true) (hst : stp cal X swt bk (.idiv, r1, r2, r3) L st M = some (.inl (L', st', M'))) (k : WP p l e R s m args below meth c Q D cy B H0 SA mi n0 z0 (pc + len) (L') (st') (M')) : WP p l e R s m args below meth c Q D cy B H0 SA mi n0 z0 (pc) (L) (st) (M) := by
  have hl : len = 1 := of_decide_eq_true hok
  subst hl
  simp only [stp] at hst
  split at hst
  · split at hst
    · cases hst
    · next hy => obtain ⟨e1, e2, e3⟩ := s_ok_inj hst; subst e1; subst e2; subst e3; exact sn_idiv hB hy hd k
  · cases hst
theorem st_irem (hG : GG s0 D cy) (hB : BB s0 p s m meth c mi) (h19 : mC mi < 19) (hd : decode (mt mi).2.1 pc = .ok (.irem, len)) (hok : okI mi bk pc (.irem, r1, r2, r3) len = true) (hst : stp cal X swt bk (.irem, r1, r2, r3) L st M = some (.inl (L', st', M'))) (k : WP p l e R s m args below meth c Q D cy B H0 SA mi n0 z0 (pc + len) (L') (st') (M')) : WP p l e R s m args below meth c Q D cy B H0 SA mi n0 z0 (pc) (L) (st) (M) := by
  have hl : len = 1 := of_decide_eq_true hok
  subst hl
  simp only [stp] at hst
  split at hst
  · split at hst
    · cases hst
    · next hy => obtain ⟨e1, e2, e3⟩ := s_ok_inj hst; subst e1; subst e2; subst e3; exact sn_irem hB hy hd k
  · cases hst
theorem st_dup (hG : GG s0 D cy) (hB : BB s0 p s m meth c mi) (h19 : mC mi < 19) (hd : decode (mt mi).2.1 pc = .ok (.dup, len)) (hok : okI mi bk pc (.dup, r1, r2, r3) len = true) (hst : stp cal X swt bk (.dup, r1, r2, r3) L st M = some (.inl (L', st', M'))) (k : WP p l e R s m args below meth c Q D cy B H0 SA mi n0 z0 (pc + len) (L') (st') (M')) : WP p l e R s m args below meth c Q D cy B H0 SA mi n0 z0 (pc) (L) (st) (M) := by
  have hl : len = 1 := of_decide_eq_true hok
  subst hl
  simp only [stp] at hst
  split at hst
  · obtain ⟨e1, e2, e3⟩ := s_ok_inj hst; subst e1; subst e2; subst e3; exact sn_dupi hB hd k
  · obtain ⟨e1, e2, e3⟩ := s_ok_inj hst; subst e1; subst e2; subst e3; exact sn_dupr hB hd k
  · cases hst
theorem st_pop (hG : GG s0 D cy) (hB : BB s0 p s m meth c mi) (h19 : mC mi < 19) (hd : decode (mt mi).2.1 pc = .ok (.pop, len)) (hok : okI mi bk pc (.pop, r1, r2, r3) len = true) (hst : stp cal X swt bk (.pop, r1, r2, r3) L st M = some (.inl (L', st', M'))) (k : WP p l e R s m args below meth c Q D cy B H0 SA mi n0 z0 (pc + len) (L') (st') (M')) : WP p l e R s m args below meth c Q D cy B H0 SA mi n0 z0 (pc) (L) (st) (M) := by
  have hl : len = 1 := of_decide_eq_true hok
  subst hl
  simp only [stp] at hst
  split at hst
  · obtain ⟨e1, e2, e3⟩ := s_ok_inj hst; subst e1; subst e2; subst e3; exact sn_popi hB hd k
  · obtain ⟨e1, e2, e3⟩ := s_ok_inj hst; subst e1; subst e2; subst e3; exact sn_popr hB hd k
  · cases hst
theorem st_getfield {i : Nat} (hG : GG s0 D cy) (hB : BB s0 p s m meth c mi) (h19 : mC mi < 19) (hd : decode (mt mi).2.1 pc = .ok (.getfield i, len)) (hok : okI mi bk pc (.getfield i, r1, r2, r3) len = true) (hst : stp cal X swt bk (.getfield i, r1, r2, r3) L st M = some (.inl (L', st', M'))) (k : WP p l e R s m args below meth c Q D cy B H0 SA mi n0 z0 (pc + len) (L') (st') (M')) : WP p l e R s m args below meth c Q D cy B H0 SA mi n0 z0 (pc) (L) (st) (M) := by
  simp only [okI, Bool.and_eq_true, decide_eq_true_eq] at hok
  obtain ⟨⟨⟨⟨rfl, hci⟩, hk⟩, hin⟩, ht⟩ := hok
  simp only [stp] at hst
  split at hst
  · next o st0 =>
    split at hst
    · next hsh =>
      rcases r3 with _ | _ | r3
      · have hst : s_ok L (.int (m_I M o r2) :: st0) M = _ := hst
        have ht : (decide (ftO r1 r2 = 0) || decide (ftO r1 r2 = 3)) = true := ht
        simp only [Bool.or_eq_true, decide_eq_true_eq] at ht
        obtain ⟨e1, e2, e3⟩ := s_ok_inj hst; subst e1; subst e2; subst e3; exact sn_get hG hB hci hk hin h19 hsh (by unfold fldV; rcases ht with e | e <;> rw [e] <;> rfl) hd k
      · have hst : s_ok L (.long (m_J M o r2) :: st0) M = _ := hst
        have ht : ftO r1 r2 = 1 := of_decide_eq_true ht
        obtain ⟨e1, e2, e3⟩ := s_ok_inj hst; subst e1; subst e2; subst e3; exact sn_get hG hB hci hk hin h19 hsh (by unfold fldV; rw [ht]; rfl) hd k
      · have hst : s_ok L (va_rf (m_R M o r2) :: st0) M = _ := hst
        have ht : ftO r1 r2 = 2 := of_decide_eq_true ht
        obtain ⟨e1, e2, e3⟩ := s_ok_inj hst; subst e1; subst e2; subst e3; exact sn_get hG hB hci hk hin h19 hsh (by unfold fldV; rw [ht]; exact cvV_rf _) hd k
    · cases hst
  · cases hst
theorem put_I {B ci k o : Nat} {x : Int32} (hk : ftO ci k = 0 ∨ ftO ci k = 3) : ∀ j, updV (fldV B M o ci) k (.int x) j = fldV B (m_wI M o k x) o ci j := by
  intro j
  unfold updV
  by_cases e : j = k
  · rw [if_pos e]; subst e; unfold fldV
    rcases hk with e | e <;> rw [e] <;> exact congrArg Value.int (by show x = va_up (m_I M) o (va_up (m_I M o) j x) o j; rw [up_s, up_s])
  · rw [if_neg e]; unfold fldV
    have h1 : m_I (m_wI M o k x) o j = m_I M o j := by show va_up (m_I M) o (va_up (m_I M o) k x) o j = _; rw [up_s, up_n _ _ e]
    rw [h1]; rfl
theorem put_J {B ci k o : Nat} {x : Int64} (hk : ftO ci k = 1) : ∀ j, updV (fldV B M o ci) k (.long x) j = fldV B (m_wJ M o k x) o ci j := by
  intro j
  unfold updV
  by_cases e : j = k
  · rw [if_pos e]; subst e; unfold fldV
    rw [hk]; exact congrArg Value.long (by show x = va_up (m_J M) o (va_up (m_J M o) j x) o j; rw [up_s, up_s])
  · rw [if_neg e]; unfold fldV
    have h1 : m_J (m_wJ M o k x) o j = m_J M o j := by show va_up (m_J M) o (va_up (m_J M o) k x) o j = _; rw [up_s, up_n _ _ e]
    rw [h1]; rfl
theorem put_R {B ci k o x : Nat} (hk : ftO ci k = 2) : ∀ j, updV (fldV B M o ci) k (.ref (B + x)) j = fldV B (m_wR M o k (some x)) o ci j := by
  intro j
  unfold updV
  by_cases e : j = k
  · rw [if_pos e]; subst e; unfold fldV
    rw [hk]
    have h1 : m_R (m_wR M o j (some x)) o j = some x := by show va_up (m_R M) o (va_up (m_R M o) j (some x)) o j = _; rw [up_s, up_s]
    rw [h1]; rfl
  · rw [if_neg e]; unfold fldV
    have h1 : m_R (m_wR M o k (some x)) o j = m_R M o j := by show va_up (m_R M) o (va_up (m_R M o) k (some x)) o j = _; rw [up_s, up_n _ _ e]
    rw [h1]; rfl
theorem fty_0 : ∀ k, k < (clO 0).2.2 → (match ftO 0 k with | 0 => decide (tyO 0 k = .int) | 1 => decide (tyO 0 k = .long) | 3 => decide (tyO 0 k = .boolean) | _ => (match tyO 0 k with | .object _ => true | .array _ => true | _ => false)) = true := by decide +kernel
theorem fty_1 : ∀ k, k < (clO 1).2.2 → (match ftO 1 k with | 0 => decide (tyO 1 k = .int) | 1 => decide (tyO 1 k = .long) | 3 => decide (tyO 1 k = .boolean) | _ => (match tyO 1 k with | .object _ => true | .array _ => true | _ => false)) = true := by decide +kernel
theorem fty_2 : ∀ k, k < (clO 2).2.2 → (match ftO 2 k with | 0 => decide (tyO 2 k = .int) | 1 => decide (tyO 2 k = .long) | 3 => decide (tyO 2 k = .boolean) | _ => (match tyO 2 k with | .object _ => true | .array _ => true | _ => false)) = true := by decide +kernel
theorem fty_3 : ∀ k, k < (clO 3).2.2 → (match ftO 3 k with | 0 => decide (tyO 3 k = .int) | 1 => decide (tyO 3 k = .long) | 3 => decide (tyO 3 k = .boolean) | _ => (match tyO 3 k with | .object _ => true | .array _ => true | _ => false)) = true := by decide +kernel
theorem fty_4 : ∀ k, k < (clO 4).2.2 → (match ftO 4 k with | 0 => decide (tyO 4 k = .int) | 1 => decide (tyO 4 k = .long) | 3 => decide (tyO 4 k = .boolean) | _ => (match tyO 4 k with | .object _ => true | .array _ => true | _ => false)) = true := by decide +kernel
theorem fty_5 : ∀ k, k < (clO 5).2.2 → (match ftO 5 k with | 0 => decide (tyO 5 k = .int) | 1 => decide (tyO 5 k = .long) | 3 => decide (tyO 5 k = .boolean) | _ => (match tyO 5 k with | .object _ => true | .array _ => true | _ => false)) = true := by decide +kernel
theorem fty_6 : ∀ k, k < (clO 6).2.2 → (match ftO 6 k with | 0 => decide (tyO 6 k = .int) | 1 => decide (tyO 6 k = .long) | 3 => decide (tyO 6 k = .boolean) | _ => (match tyO 6 k with | .object _ => true | .array _ => true | _ => false)) = true := by decide +kernel
theorem fty_7 : ∀ k, k < (clO 7).2.2 → (match ftO 7 k with | 0 => decide (tyO 7 k = .int) | 1 => decide (tyO 7 k = .long) | 3 => decide (tyO 7 k = .boolean) | _ => (match tyO 7 k with | .object _ => true | .array _ => true | _ => false)) = true := by decide +kernel
theorem fty_8 : ∀ k, k < (clO 8).2.2 → (match ftO 8 k with | 0 => decide (tyO 8 k = .int) | 1 => decide (tyO 8 k = .long) | 3 => decide (tyO 8 k = .boolean) | _ => (match tyO 8 k with | .object _ => true | .array _ => true | _ => false)) = true := by decide +kernel
theorem fty_9 : ∀ k, k < (clO 9).2.2 → (match ftO 9 k with | 0 => decide (tyO 9 k = .int) | 1 => decide (tyO 9 k = .long) | 3 => decide (tyO 9 k = .boolean) | _ => (match tyO 9 k with | .object _ => true | .array _ => true | _ => false)) = true := by decide +kernel
theorem fty_10 : ∀ k, k < (clO 10).2.2 → (match ftO 10 k with | 0 => decide (tyO 10 k = .int) | 1 => decide (tyO 10 k = .long) | 3 => decide (tyO 10 k = .boolean) | _ => (match tyO 10 k with | .object _ => true | .array _ => true | _ => false)) = true := by decide +kernel
theorem fty_11 : ∀ k, k < (clO 11).2.2 → (match ftO 11 k with | 0 => decide (tyO 11 k = .int) | 1 => decide (tyO 11 k = .long) | 3 => decide (tyO 11 k = .boolean) | _ => (match tyO 11 k with | .object _ => true | .array _ => true | _ => false)) = true := by decide +kernel
theorem fty_12 : ∀ k, k < (clO 12).2.2 → (match ftO 12 k with | 0 => decide (tyO 12 k = .int) | 1 => decide (tyO 12 k = .long) | 3 => decide (tyO 12 k = .boolean) | _ => (match tyO 12 k with | .object _ => true | .array _ => true | _ => false)) = true := by decide +kernel
theorem fty_all : ∀ ci, ci < 13 → ∀ k, k < (clO ci).2.2 → (match ftO ci k with | 0 => decide (tyO ci k = .int) | 1 => decide (tyO ci k = .long) | 3 => decide (tyO ci k = .boolean) | _ => (match tyO ci k with | .object _ => true | .array _ => true | _ => false)) = true
  | 0, _ => fty_0
  | 1, _ => fty_1
  | 2, _ => fty_2
  | 3, _ => fty_3
  | 4, _ => fty_4
  | 5, _ => fty_5
  | 6, _ => fty_6
  | 7, _ => fty_7
  | 8, _ => fty_8
  | 9, _ => fty_9
  | 10, _ => fty_10
  | 11, _ => fty_11
  | 12, _ => fty_12
  | k + 13, h => absurd h (by omega)
theorem bool_of {x : Int32} (h : x &&& 1 = x) : x = 0 ∨ x = 1 := by
  have h1 : x.toBitVec &&& 1#32 = x.toBitVec := congrArg Int32.toBitVec h
  have h2 : x.toBitVec = 0#32 ∨ x.toBitVec = 1#32 := by
    generalize x.toBitVec = b at h1
    have h3 := congrArg BitVec.toNat h1
    rw [BitVec.toNat_and] at h3
    have h4 : b.toNat &&& 1 = b.toNat % 2 := Nat.and_one_is_mod _
    have h5 : (1#32).toNat = 1 := rfl
    rw [h5, h4] at h3
    rcases (by omega : b.toNat = 0 ∨ b.toNat = 1) with e | e
    · exact Or.inl (BitVec.eq_of_toNat_eq e)
    · exact Or.inr (BitVec.eq_of_toNat_eq e)
  rcases h2 with e | e
  · exact Or.inl (Int32.toBitVec_inj.mp e)
  · exact Or.inr (Int32.toBitVec_inj.mp e)
theorem st_putfield {i : Nat} (hG : GG s0 D cy) (hB : BB s0 p s m meth c mi) (h19 : mC mi < 19) (hN : ∀ k, k ∈ ctrL → (mt k).1.name = "<init>") (hd : decode (mt mi).2.1 pc = .ok (.putfield i, len)) (hok : okI mi bk pc (.putfield i, r1, r2, r3) len = true) (hst : stp cal X swt bk (.putfield i, r1, r2, r3) L st M = some (.inl (L', st', M'))) (k : WP p l e R s m args below meth c Q D cy B H0 SA mi n0 z0 (pc + len) (L') (st') (M')) : WP p l e R s m args below meth c Q D cy B H0 SA mi n0 z0 (pc) (L) (st) (M) := by
  simp only [okI, Bool.and_eq_true, decide_eq_true_eq] at hok
  obtain ⟨⟨⟨⟨⟨⟨rfl, hci⟩, hk⟩, hin⟩, h4⟩, ht⟩, hfin⟩ := hok
  have hty := fty_all r1 hci r2 hk
  have hf : ((clO r1).2.1 r2).2.2.2 = false ∨ (meth.name = "<init>" ∧ ((clO r1).2.1 r2).1 = clsN (mC mi) ∧ (i, r1, r2, 0) ∈ flt (mC mi)) := by
    simp only [Bool.or_eq_true, Bool.and_eq_true, decide_eq_true_eq] at hfin
    rcases hfin with h | ⟨⟨h1, h2⟩, h3⟩
    · exact Or.inl h
    · refine Or.inr ⟨?_, h2, ?_⟩
      · exact hB.2.2.2.2.2.2.2 h1
      · obtain ⟨q, hq, e⟩ := List.any_eq_true.mp h3
        rw [of_decide_eq_true e] at hq; exact hq
  rcases r3 with _ | _ | _ | _ | r3
  · simp only [stp] at hst
    split at hst
    · next x o st0 =>
      split at hst
      · next hsh =>
        rw [ht] at hty
        have hty : tyO r1 r2 = .int := of_decide_eq_true hty
        obtain ⟨e1, e2, e3⟩ := s_ok_inj hst; subst e1; subst e2; subst e3; exact sn_put (M' := m_wI M o r2 x) hG hB hci hk hin h19 hf hsh (by rw [hty]; rfl) (by rw [hty]; rfl) rfl rfl rfl (wI_I _ _ _ _) (fun _ _ => rfl) (fun _ _ => rfl) (fun j _ => put_I (Or.inl ht) j) hd k
      · cases hst
    · cases hst
  · simp only [stp] at hst
    split at hst
    · next x o st0 =>
      split at hst
      · next hsh =>
        rw [ht] at hty
        have hty : tyO r1 r2 = .long := of_decide_eq_true hty
        obtain ⟨e1, e2, e3⟩ := s_ok_inj hst; subst e1; subst e2; subst e3; exact sn_put (M' := m_wJ M o r2 x) hG hB hci hk hin h19 hf hsh (by rw [hty]; rfl) (by rw [hty]; rfl) rfl rfl rfl (fun _ _ => rfl) (wJ_J _ _ _ _) (fun _ _ => rfl) (fun j _ => put_J ht j) hd k
      · cases hst
    · cases hst
  · simp only [stp] at hst
    split at hst
    · next x o st0 =>
      split at hst
      · next hsh =>
        rw [ht] at hty
        obtain ⟨e1, e2, e3⟩ := s_ok_inj hst; subst e1; subst e2; subst e3;
        have hnf : ∀ a : Nat, narrow (tyO r1 r2) (.ref a) = .ref a ∧ fits (tyO r1 r2) (.ref a) = true := by
          intro a
          cases hq : tyO r1 r2 <;> rw [hq] at hty <;> first | (cases hty; done) | exact ⟨rfl, rfl⟩
        exact sn_put (M' := m_wR M o r2 (some x)) hG hB hci hk hin h19 hf hsh (hnf _).1 (hnf _).2 rfl rfl rfl (fun _ _ => rfl) (fun _ _ => rfl) (wR_R _ _ _ _) (fun j _ => put_R ht j) hd k
      · cases hst
    · cases hst
  · simp only [stp] at hst
    split at hst
    · next x o st0 =>
      split at hst
      · next hsh =>
        rw [ht] at hty
        have hty : tyO r1 r2 = .boolean := of_decide_eq_true hty
        obtain ⟨e1, e2, e3⟩ := s_ok_inj hst; subst e1; subst e2; subst e3;
        have hx : x = 0 ∨ x = 1 := bool_of hsh.2
        exact sn_put (M' := m_wI M o r2 x) hG hB hci hk hin h19 hf hsh.1 (by rw [hty]; exact congrArg Value.int hsh.2) (by rw [hty]; rcases hx with e | e <;> rw [e] <;> rfl) rfl rfl rfl (wI_I _ _ _ _) (fun _ _ => rfl) (fun _ _ => rfl) (fun j _ => put_I (Or.inr ht) j) hd k
      · cases hst
    · cases hst
  · omega
theorem st_laload (hG : GG s0 D cy) (hB : BB s0 p s m meth c mi) (h19 : mC mi < 19) (hd : decode (mt mi).2.1 pc = .ok (.laload, len)) (hok : okI mi bk pc (.laload, r1, r2, r3) len = true) (hst : stp cal X swt bk (.laload, r1, r2, r3) L st M = some (.inl (L', st', M'))) (k : WP p l e R s m args below meth c Q D cy B H0 SA mi n0 z0 (pc + len) (L') (st') (M')) : WP p l e R s m args below meth c Q D cy B H0 SA mi n0 z0 (pc) (L) (st) (M) := by
  have hl : len = 1 := of_decide_eq_true hok
  subst hl
  simp only [stp] at hst
  split at hst
  · split at hst
    · next hsh => obtain ⟨e1, e2, e3⟩ := s_ok_inj hst; subst e1; subst e2; subst e3; exact sn_laload hG hB hsh.1 hsh.2 hd k
    · cases hst
  · cases hst
theorem st_baload (hG : GG s0 D cy) (hB : BB s0 p s m meth c mi) (h19 : mC mi < 19) (hd : decode (mt mi).2.1 pc = .ok (.baload, len)) (hok : okI mi bk pc (.baload, r1, r2, r3) len = true) (hst : stp cal X swt bk (.baload, r1, r2, r3) L st M = some (.inl (L', st', M'))) (k : WP p l e R s m args below meth c Q D cy B H0 SA mi n0 z0 (pc + len) (L') (st') (M')) : WP p l e R s m args below meth c Q D cy B H0 SA mi n0 z0 (pc) (L) (st) (M) := by
  have hl : len = 1 := of_decide_eq_true hok
  subst hl
  simp only [stp] at hst
  split at hst
  · split at hst
    · next hsh => obtain ⟨e1, e2, e3⟩ := s_ok_inj hst; subst e1; subst e2; subst e3; exact sn_baload hG hB hsh.1 hsh.2 hd k
    · cases hst
  · cases hst
theorem st_aaload (hG : GG s0 D cy) (hB : BB s0 p s m meth c mi) (h19 : mC mi < 19) (hd : decode (mt mi).2.1 pc = .ok (.aaload, len)) (hok : okI mi bk pc (.aaload, r1, r2, r3) len = true) (hst : stp cal X swt bk (.aaload, r1, r2, r3) L st M = some (.inl (L', st', M'))) (k : WP p l e R s m args below meth c Q D cy B H0 SA mi n0 z0 (pc + len) (L') (st') (M')) : WP p l e R s m args below meth c Q D cy B H0 SA mi n0 z0 (pc) (L) (st) (M) := by
  have hl : len = 1 := of_decide_eq_true hok
  subst hl
  simp only [stp] at hst
  split at hst
  · split at hst
    · next hsh => obtain ⟨e1, e2, e3⟩ := s_ok_inj hst; subst e1; subst e2; subst e3; exact sn_aaload hG hB hsh.1 hsh.2 hd k
    · cases hst
  · cases hst
theorem st_iaload (hG : GG s0 D cy) (hB : BB s0 p s m meth c mi) (h19 : mC mi < 19) (hX : ∀ {L st : List Value} {M : Mem} {pc : Nat} {i v : Int32} {ins : Instr}, ((ins = .iaload ∧ inb i X.1 = true ∧ v = X.2 i.toNatClampNeg ∧ decode (mt mi).2.1 pc = .ok (.iaload, 1)) ∨ False) → WP p l e R s m args below meth c Q D cy B H0 SA mi n0 z0 (pc + 1) (L) (.int v :: st) (M) → WP p l e R s m args below meth c Q D cy B H0 SA mi n0 z0 (pc) (L) (.int i :: .float 1000 :: st) (M)) (hd : decode (mt mi).2.1 pc = .ok (.iaload, len)) (hok : okI mi bk pc (.iaload, r1, r2, r3) len = true) (hst : stp cal X swt bk (.iaload, r1, r2, r3) L st M = some (.inl (L', st', M'))) (k : WP p l e R s m args below meth c Q D cy B H0 SA mi n0 z0 (pc + len) (L') (st') (M')) : WP p l e R s m args below meth c Q D cy B H0 SA mi n0 z0 (pc) (L) (st) (M) := by
  have hl : len = 1 := of_decide_eq_true hok
  subst hl
  simp only [stp] at hst
  split at hst
  · split at hst
    · next hsh => obtain ⟨e1, e2, e3⟩ := s_ok_inj hst; subst e1; subst e2; subst e3; exact sn_iaload hG hB hsh.1 hsh.2 hd k
    · cases hst
  · split at hst
    · next hsh => obtain ⟨e1, e2, e3⟩ := s_ok_inj hst; subst e1; subst e2; subst e3; obtain ⟨rfl, hin⟩ := hsh; exact hX (Or.inl ⟨rfl, hin, rfl, hd⟩) k
    · cases hst
  · cases hst
-- iaload of the script comes with the law
theorem st_iastore (hG : GG s0 D cy) (hB : BB s0 p s m meth c mi) (h19 : mC mi < 19) (hd : decode (mt mi).2.1 pc = .ok (.iastore, len)) (hok : okI mi bk pc (.iastore, r1, r2, r3) len = true) (hst : stp cal X swt bk (.iastore, r1, r2, r3) L st M = some (.inl (L', st', M'))) (k : WP p l e R s m args below meth c Q D cy B H0 SA mi n0 z0 (pc + len) (L') (st') (M')) : WP p l e R s m args below meth c Q D cy B H0 SA mi n0 z0 (pc) (L) (st) (M) := by
  have hl : len = 1 := of_decide_eq_true hok
  subst hl
  simp only [stp] at hst
  split at hst
  · split at hst
    · next hsh => obtain ⟨e1, e2, e3⟩ := s_ok_inj hst; subst e1; subst e2; subst e3; exact sn_iastore hG hB hsh.1 hsh.2 hd k
    · cases hst
  · cases hst
theorem st_lastore (hG : GG s0 D cy) (hB : BB s0 p s m meth c mi) (h19 : mC mi < 19) (hd : decode (mt mi).2.1 pc = .ok (.lastore, len)) (hok : okI mi bk pc (.lastore, r1, r2, r3) len = true) (hst : stp cal X swt bk (.lastore, r1, r2, r3) L st M = some (.inl (L', st', M'))) (k : WP p l e R s m args below meth c Q D cy B H0 SA mi n0 z0 (pc + len) (L') (st') (M')) : WP p l e R s m args below meth c Q D cy B H0 SA mi n0 z0 (pc) (L) (st) (M) := by
  have hl : len = 1 := of_decide_eq_true hok
  subst hl
  simp only [stp] at hst
  split at hst
  · split at hst
    · next hsh => obtain ⟨e1, e2, e3⟩ := s_ok_inj hst; subst e1; subst e2; subst e3; exact sn_lastore hG hB hsh.1 hsh.2 hd k
    · cases hst
  · cases hst
theorem st_aastore (hG : GG s0 D cy) (hB : BB s0 p s m meth c mi) (h19 : mC mi < 19) (hd : decode (mt mi).2.1 pc = .ok (.aastore, len)) (hok : okI mi bk pc (.aastore, r1, r2, r3) len = true) (hst : stp cal X swt bk (.aastore, r1, r2, r3) L st M = some (.inl (L', st', M'))) (k : WP p l e R s m args below meth c Q D cy B H0 SA mi n0 z0 (pc + len) (L') (st') (M')) : WP p l e R s m args below meth c Q D cy B H0 SA mi n0 z0 (pc) (L) (st) (M) := by
  have hl : len = 1 := of_decide_eq_true hok
  subst hl
  simp only [stp] at hst
  split at hst
  · split at hst
    · next hsh => obtain ⟨e1, e2, e3⟩ := s_ok_inj hst; subst e1; subst e2; subst e3; exact sn_aastore hG hB hsh.1 hsh.2 hd k
    · cases hst
  · cases hst
theorem st_bastore (hG : GG s0 D cy) (hB : BB s0 p s m meth c mi) (h19 : mC mi < 19) (hd : decode (mt mi).2.1 pc = .ok (.bastore, len)) (hok : okI mi bk pc (.bastore, r1, r2, r3) len = true) (hst : stp cal X swt bk (.bastore, r1, r2, r3) L st M = some (.inl (L', st', M'))) (k : WP p l e R s m args below meth c Q D cy B H0 SA mi n0 z0 (pc + len) (L') (st') (M')) : WP p l e R s m args below meth c Q D cy B H0 SA mi n0 z0 (pc) (L) (st) (M) := by
  have hl : len = 1 := of_decide_eq_true hok
  subst hl
  simp only [stp] at hst
  split at hst
  · split at hst
    · next hsh => obtain ⟨e1, e2, e3⟩ := s_ok_inj hst; subst e1; subst e2; subst e3; exact sn_bastore hG hB hsh.1 hsh.2.1 hsh.2.2 hd k
    · cases hst
  · cases hst
theorem st_new {i : Nat} (hG : GG s0 D cy) (hB : BB s0 p s m meth c mi) (h19 : mC mi < 19) (hn0 : n0 ≤ m_n M) (hz0 : z0 ≤ m_z M) (hc1 : m_n M' - n0 ≤ R.cells) (hc2 : m_z M' - z0 ≤ R.slots) (hd : decode (mt mi).2.1 pc = .ok (.new i, len)) (hok : okI mi bk pc (.new i, r1, r2, r3) len = true) (hst : stp cal X swt bk (.new i, r1, r2, r3) L st M = some (.inl (L', st', M'))) (k : WP p l e R s m args below meth c Q D cy B H0 SA mi n0 z0 (pc + len) (L') (st') (M')) : WP p l e R s m args below meth c Q D cy B H0 SA mi n0 z0 (pc) (L) (st) (M) := by
  simp only [okI, Bool.and_eq_true, decide_eq_true_eq] at hok
  obtain ⟨⟨⟨rfl, hci⟩, hr2⟩, hq⟩ := hok
  have hst : s_ok L (.ref (m_n M) :: st) (m_nw M r1 r2) = _ := hst
  obtain ⟨e1, e2, e3⟩ := s_ok_inj hst; subst e1; subst e2; subst e3;
  subst hr2
  have c1 : m_n M + 1 - n0 ≤ R.cells := hc1
  have c2 : m_z M + (clO r1).2.2 - z0 ≤ R.slots := hc2
  exact sn_new hG hB hci h19 hq hn0 hz0 (by omega) (by omega) hd k
theorem st_newarray {t : ArrayType} (hG : GG s0 D cy) (hB : BB s0 p s m meth c mi) (h19 : mC mi < 19) (hn0 : n0 ≤ m_n M) (hz0 : z0 ≤ m_z M) (hc1 : m_n M' - n0 ≤ R.cells) (hc2 : m_z M' - z0 ≤ R.slots) (hd : decode (mt mi).2.1 pc = .ok (.newarray t, len)) (hok : okI mi bk pc (.newarray t, r1, r2, r3) len = true) (hst : stp cal X swt bk (.newarray t, r1, r2, r3) L st M = some (.inl (L', st', M'))) (k : WP p l e R s m args below meth c Q D cy B H0 SA mi n0 z0 (pc + len) (L') (st') (M')) : WP p l e R s m args below meth c Q D cy B H0 SA mi n0 z0 (pc) (L) (st) (M) := by
  simp only [okI, Bool.and_eq_true, decide_eq_true_eq] at hok
  simp only [stp] at hst
  split at hst
  · next x st0 =>
    split at hst
    · next hx =>
      obtain ⟨e1, e2, e3⟩ := s_ok_inj hst; subst e1; subst e2; subst e3;
      have c1 : m_n M + 1 - n0 ≤ R.cells := hc1
      have c2 : m_z M + x.toNatClampNeg - z0 ≤ R.slots := hc2
      obtain ⟨rfl, ht⟩ := hok
      cases t <;> simp only at ht <;> first | (cases ht; done) | (have ht := of_decide_eq_true ht; subst ht; first | exact sn_newa_int hG hB hx.1 hx.2 hn0 hz0 (by omega) (by omega) hd k | exact sn_newa_long hG hB hx.1 hx.2 hn0 hz0 (by omega) (by omega) hd k | exact sn_newa_boolean hG hB hx.1 hx.2 hn0 hz0 (by omega) (by omega) hd k)
    · cases hst
  · cases hst
theorem st_anewarray {i : Nat} (hG : GG s0 D cy) (hB : BB s0 p s m meth c mi) (h19 : mC mi < 19) (hn0 : n0 ≤ m_n M) (hz0 : z0 ≤ m_z M) (hc1 : m_n M' - n0 ≤ R.cells) (hc2 : m_z M' - z0 ≤ R.slots) (hd : decode (mt mi).2.1 pc = .ok (.anewarray i, len)) (hok : okI mi bk pc (.anewarray i, r1, r2, r3) len = true) (hst : stp cal X swt bk (.anewarray i, r1, r2, r3) L st M = some (.inl (L', st', M'))) (k : WP p l e R s m args below meth c Q D cy B H0 SA mi n0 z0 (pc + len) (L') (st') (M')) : WP p l e R s m args below meth c Q D cy B H0 SA mi n0 z0 (pc) (L) (st) (M) := by
  simp only [okI, Bool.and_eq_true, decide_eq_true_eq] at hok
  simp only [stp] at hst
  split at hst
  · next x st0 =>
    split at hst
    · next hx =>
      obtain ⟨e1, e2, e3⟩ := s_ok_inj hst; subst e1; subst e2; subst e3;
      have c1 : m_n M + 1 - n0 ≤ R.cells := hc1
      have c2 : m_z M + x.toNatClampNeg - z0 ≤ R.slots := hc2
      obtain ⟨⟨rfl, hk⟩, hq⟩ := hok
      simp only [Bool.or_eq_true, decide_eq_true_eq] at hk
      exact sn_anewa hG hB hk h19 hq hx.1 hx.2 hn0 hz0 (by omega) (by omega) hd k
    · cases hst
  · cases hst
end STEP
