/-! ===== a block, a run, a call ===== -/
def isT (i : Instr) : Bool := match i with
  | .goto _ | .ireturn | .lreturn | .return_ | .if_icmp _ _ | .ifCond _ _ | .tableswitch _ _ _ _ | .lookupswitch _ _ => true
  | _ => false
theorem s_call_nr {r : Ans} {L st : List Value} {o : Out} (h : s_call r L st = some (.inr o)) : False := by
  unfold s_call at h
  split at h
  · cases h
  · exact s_ok_nr h
set_option maxHeartbeats 4000000 in
theorem stp_ctl {cal : Nat → List Value → Mem → Ans} {X : Nat × (Nat → Int32)} {sw : Nat → List (Nat × Nat)} {bk : Nat} {a : AI} {L st : List Value} {M : Mem} {o : Out} (h : stp cal X sw bk a L st M = some (.inr o)) : isT a.1 = true := by
  unfold stp at h
  split at h
  all_goals first
    | (next heq => rw [heq]; rfl)
    | (repeat' (split at h)
       all_goals first
         | (cases h; done)
         | exact (s_ok_nr h).elim
         | exact (s_call_nr h).elim
         | (next heq _ => rw [heq]; rfl)
         | simp_all [isT])
set_option maxHeartbeats 4000000 in
theorem stp_nT {cal : Nat → List Value → Mem → Ans} {X : Nat × (Nat → Int32)} {sw : Nat → List (Nat × Nat)} {bk : Nat} {a : AI} {L st L' st' : List Value} {M M' : Mem} (h : stp cal X sw bk a L st M = some (.inl (L', st', M'))) (ht : isT a.1 = true) : False := by
  obtain ⟨i, r1, r2, r3⟩ := a
  cases i with
  | goto _ => cases h
  | if_icmp _ _ => simp only [stp] at h; split at h <;> first | (cases h; done) | (split at h <;> cases h)
  | ifCond _ _ => simp only [stp] at h; split at h <;> first | (cases h; done) | (split at h <;> cases h)
  | tableswitch _ _ _ _ => simp only [stp] at h; split at h <;> first | (cases h; done) | exact (swj_nl h).elim
  | lookupswitch _ _ => simp only [stp] at h; split at h <;> first | (cases h; done) | exact (swj_nl h).elim
  | ireturn => simp only [stp] at h; split at h <;> first | (cases h; done) | (split at h <;> first | (cases h; done) | (split at h <;> cases h))
  | lreturn => simp only [stp] at h; split at h <;> cases h
  | return_ => simp only [stp] at h; split at h <;> cases h
  | _ => cases ht
theorem okL_cons {mi bk pc : Nat} {a : AI} {is : List AI} (h : okL mi bk pc (a :: is) = true) (ha : a.1 ≠ .athrow) : ∃ len, decode (mt mi).2.1 pc = .ok (a.1, len) ∧ okI mi bk pc a len = true ∧ (isT a.1 = true ∨ okL mi bk (pc + len) is = true) := by
  unfold okL at h
  split at h
  · next heq => exact absurd heq ha
  · split at h
    · next i len heq =>
      simp only [Bool.and_eq_true, decide_eq_true_eq] at h
      obtain ⟨⟨rfl, h2⟩, h3⟩ := h
      refine ⟨len, heq, h2, ?_⟩
      split at h3
      all_goals first
        | (next heq2 => left; rw [heq2]; rfl)
        | (right; exact h3)
    · cases h
def oMz (o : Out) : Mem := match o with
  | .inl r => r.2
  | .inr q => q.2.2.2
theorem s_jp_o {b : Nat} {L st : List Value} {M : Mem} {o : Out} (h : s_jp b L st M = some (.inr o)) : oMz o = M := by unfold s_jp at h; cases h; rfl
theorem s_rt_o {v : Option Value} {M : Mem} {o : Out} (h : s_rt v M = some (.inr o)) : oMz o = M := by unfold s_rt at h; cases h; rfl
set_option maxHeartbeats 4000000 in
theorem stp_mem {cal : Nat → List Value → Mem → Ans} {X : Nat × (Nat → Int32)} {sw : Nat → List (Nat × Nat)} {bk : Nat} {a : AI} {L st : List Value} {M : Mem} {o : Out} (h : stp cal X sw bk a L st M = some (.inr o)) : oMz o = M := by
  have hT := stp_ctl h
  obtain ⟨i, r1, r2, r3⟩ := a
  cases i with
  | goto _ => exact s_jp_o h
  | if_icmp _ _ => simp only [stp] at h; split at h <;> first | (cases h; done) | (split at h <;> exact s_jp_o h)
  | ifCond _ _ => simp only [stp] at h; split at h <;> first | (cases h; done) | (split at h <;> exact s_jp_o h)
  | tableswitch _ _ _ _ => simp only [stp] at h; split at h <;> first | (cases h; done) | (rw [swj_r] at h; exact s_jp_o h)
  | lookupswitch _ _ => simp only [stp] at h; split at h <;> first | (cases h; done) | (rw [swj_r] at h; exact s_jp_o h)
  | ireturn => simp only [stp] at h; split at h <;> first | (cases h; done) | (split at h <;> first | (cases h; done) | exact s_rt_o h | (split at h <;> first | (cases h; done) | exact s_rt_o h))
  | lreturn => simp only [stp] at h; split at h <;> first | (cases h; done) | exact s_rt_o h
  | return_ => simp only [stp] at h; split at h <;> first | (cases h; done) | exact s_rt_o h
  | _ => cases hT
theorem exF_grows {cal : Nat → List Value → Mem → Ans} (hc : grows cal) {X : Nat × (Nat → Int32)} {bk : Nat} : ∀ (is : List AI) (L st : List Value) (M : Mem) (o : Out), exF cal X bk is L st M = some o → m_n M ≤ m_n (oMz o) ∧ m_z M ≤ m_z (oMz o) := by
  intro is
  induction is with
  | nil => intro L st M o h; cases h; exact ⟨Nat.le_refl _, Nat.le_refl _⟩
  | cons a is ih =>
    intro L st M o h
    unfold exF at h
    split at h
    · cases h
    · next L' st' M' heq =>
      have h1 := stp_grows hc heq
      have h2 := ih L' st' M' o h
      omega
    · next o' heq =>
      cases h
      have e : oMz o = M := stp_mem heq
      rw [e]; exact ⟨Nat.le_refl _, Nat.le_refl _⟩
section RUN
variable {p : Program} {l : Launch} {e : Env} {R : Room} {s s0 : State} {m : MethodId} {args : Array Value} {below : List Frame} {meth : Method} {c : Code} {Q : State → Prop} {D : va_G} {cy : Nat → ClassId} {B : Nat} {H0 : Heap} {SA : Nat → Nat} {mi n0 z0 : Nat} {cal : Nat → List Value → Mem → Ans} {X : Nat × (Nat → Int32)}
theorem stp_jmp (hB : BB s0 p s m meth c mi) {bk pc len b' : Nat} {a : AI} {L st L' st' : List Value} {M M' : Mem} (hd : decode (mt mi).2.1 pc = .ok (a.1, len)) (hok : okI mi bk pc a len = true) (hst : stp cal X swt bk a L st M = some (.inr (.inr (b', L', st', M')))) (k : WP p l e R s m args below meth c Q D cy B H0 SA mi n0 z0 (pcO mi b') (L') (st') (M')) : WP p l e R s m args below meth c Q D cy B H0 SA mi n0 z0 (pc) (L) (st) (M) := by
  have hT := stp_ctl hst
  obtain ⟨i, r1, r2, r3⟩ := a
  cases i with
  | goto off =>
    have hst : s_jp r1 L st M = _ := hst
    simp only [okI, Bool.and_eq_true, decide_eq_true_eq] at hok
    obtain ⟨rfl, ht⟩ := hok
    obtain ⟨e1, e2, e3, e4⟩ := s_jp_inj hst; subst e1; subst e2; subst e3; subst e4
    exact sn_goto hB ht hd k
  | if_icmp _ _ => exact jp_icmp hB hd hok hst k
  | ifCond _ _ => exact jp_if hB hd hok hst k
  | tableswitch _ _ _ _ => exact jp_tsw hB hd hok hst k
  | lookupswitch _ _ => exact jp_lsw hB hd hok hst k
  | ireturn => simp only [stp] at hst; split at hst <;> first | (cases hst; done) | (split at hst <;> first | (cases hst; done) | (split at hst <;> cases hst))
  | lreturn => simp only [stp] at hst; split at hst <;> cases hst
  | return_ => simp only [stp] at hst; split at hst <;> cases hst
  | _ => cases hT
/-- a block, with what comes behind it as hypotheses -/
theorem exF_snd (hG : GG s0 D cy) (hB : BB s0 p s m meth c mi) (h19 : mC mi < 19) (hS : SC s0 H0 B SA X) {d : Nat} (hC : CK l s0 D cy B H0 SA d cal) (hr1 : d + 1 ≤ R.frames) (hr2 : 100 * d + 100 ≤ R.locals) (hPr : PrA p l e R s m args below meth c Q D cy B H0 SA mi n0 z0 cal) {bk : Nat} {o : Out} (hc1 : m_n (oMz o) - n0 ≤ R.cells) (hc2 : m_z (oMz o) - z0 ≤ R.slots)
    (hret : ∀ (r : Option Value × Mem) (pc len : Nat) (a : AI) (L st : List Value) (M : Mem), o = .inl r → decode (mt mi).2.1 pc = .ok (a.1, len) → okI mi bk pc a len = true → stp cal X swt bk a L st M = some (.inr (.inl r)) → WP p l e R s m args below meth c Q D cy B H0 SA mi n0 z0 (pc) (L) (st) (M))
    (hjmp : ∀ (b' : Nat) (L' st' : List Value) (M' : Mem), o = .inr (b', L', st', M') → WP p l e R s m args below meth c Q D cy B H0 SA mi n0 z0 (pcO mi b') (L') (st') (M')) :
    ∀ (is : List AI) (pc : Nat) (L st : List Value) (M : Mem), okL mi bk pc is = true → exF cal X bk is L st M = some o → n0 ≤ m_n M → z0 ≤ m_z M → WP p l e R s m args below meth c Q D cy B H0 SA mi n0 z0 (pc) (L) (st) (M) := by
  intro is
  induction is with
  | nil =>
    intro pc L st M hok h hn0 hz0
    cases h
    have e : pcO mi (bk + 1) = pc := of_decide_eq_true hok
    have := hjmp _ _ _ _ rfl
    rw [e] at this
    exact this
  | cons a is ih =>
    intro pc L st M hok h hn0 hz0
    have ha : a.1 ≠ .athrow := by
      intro ha
      obtain ⟨i, r1, r2, r3⟩ := a
      simp only at ha
      subst ha
      cases h
    obtain ⟨len, hd, hoi, hrest⟩ := okL_cons hok ha
    unfold exF at h
    split at h
    · cases h
    · next L' st' M' heq =>
      have hg := stp_grows hC.1 heq
      have hg2 := exF_grows hC.1 _ _ _ _ _ h
      rcases hrest with hT | hrest
      · exact (stp_nT heq hT).elim
      · exact stp_snd hG hB h19 hS hC hr1 hr2 hn0 hz0 (by omega) (by omega) hPr hd hoi heq (ih _ _ _ _ hrest h (by omega) (by omega))
    · next o' heq =>
      cases h
      cases o with
      | inl r => exact hret r pc len a L st M rfl hd hoi heq
      | inr q => obtain ⟨b', L', st', M'⟩ := q; exact stp_jmp hB hd hoi heq (hjmp _ _ _ _ rfl)
theorem prg_nil {mi b : Nat} (h : (prg mi).length ≤ b) : cod mi b = [] := by
  unfold cod
  rw [List.getD_eq_getElem?_getD, List.getElem?_eq_none h]; rfl
theorem runF_out {mi : Nat} : ∀ (n b : Nat) (L st : List Value) (M : Mem), (prg mi).length ≤ b → runF cal X mi n b L st M = none := by
  intro n
  induction n with
  | zero => intro b L st M h; rfl
  | succ n ih =>
    intro b L st M h
    unfold runF
    rw [prg_nil h]
    exact ih (b + 1) L st M (by omega)
theorem runF_grows (hc : grows cal) {mi : Nat} : ∀ (n b : Nat) (L st : List Value) (M : Mem) (r : Option Value × Mem), runF cal X mi n b L st M = some r → m_n M ≤ m_n r.2 ∧ m_z M ≤ m_z r.2 := by
  intro n
  induction n with
  | zero => intro b L st M r h; cases h
  | succ n ih =>
    intro b L st M r h
    unfold runF at h
    split at h
    · cases h
    · next q heq =>
      cases h
      exact exF_grows hc _ _ _ _ _ heq
    · next b' L' st' M' heq =>
      have h1 := exF_grows hc _ _ _ _ _ heq
      have h2 := ih _ _ _ _ _ h
      have e : oMz (.inr (b', L', st', M')) = M' := rfl
      rw [e] at h1
      omega
theorem okM_blk {mi b : Nat} (h : okM mi = true) (hb : b < (prg mi).length) : okL mi b (pcO mi b) (cod mi b) = true := by
  unfold okM at h
  rw [Bool.and_eq_true, List.all_eq_true] at h
  exact h.2 b (List.mem_range.mpr hb)
/-- a run, with the return as a hypothesis -/
theorem runF_snd (hG : GG s0 D cy) (hB : BB s0 p s m meth c mi) (hok : okM mi = true) (hS : SC s0 H0 B SA X) {d : Nat} (hC : CK l s0 D cy B H0 SA d cal) (hr1 : d + 1 ≤ R.frames) (hr2 : 100 * d + 100 ≤ R.locals) (hPr : PrA p l e R s m args below meth c Q D cy B H0 SA mi n0 z0 cal) {rr : Option Value × Mem} (hc1 : m_n rr.2 - n0 ≤ R.cells) (hc2 : m_z rr.2 - z0 ≤ R.slots)
    (hret : ∀ (bk pc len : Nat) (a : AI) (L st : List Value) (M : Mem), decode (mt mi).2.1 pc = .ok (a.1, len) → okI mi bk pc a len = true → stp cal X swt bk a L st M = some (.inr (.inl rr)) → WP p l e R s m args below meth c Q D cy B H0 SA mi n0 z0 (pc) (L) (st) (M)) :
    ∀ (n b : Nat) (L st : List Value) (M : Mem), runF cal X mi n b L st M = some rr → n0 ≤ m_n M → z0 ≤ m_z M → WP p l e R s m args below meth c Q D cy B H0 SA mi n0 z0 (pcO mi b) (L) (st) (M) := by
  intro n
  induction n with
  | zero => intro b L st M h; cases h
  | succ n ih =>
    intro b L st M h hn0 hz0
    have h19 : mC mi < 19 := by unfold okM at hok; rw [Bool.and_eq_true] at hok; exact of_decide_eq_true hok.1
    have hb : b < (prg mi).length := by
      rcases Nat.lt_or_ge b (prg mi).length with h1 | h1
      · exact h1
      · rw [runF_out _ _ _ _ _ h1] at h; cases h
    have hg := runF_grows hC.1 _ _ _ _ _ _ h
    unfold runF at h
    split at h
    · cases h
    · next q heq =>
      cases h
      exact exF_snd (o := .inl rr) hG hB h19 hS hC hr1 hr2 hPr hc1 hc2 (fun r pc len a L st M e hd hoi hst => by cases e; exact hret _ pc len a L st M hd hoi hst) (fun _ _ _ _ e => by cases e) _ _ _ _ _ (okM_blk hok hb) heq hn0 hz0
    · next b' L' st' M' heq =>
      have h1 := exF_grows hC.1 _ _ _ _ _ heq
      have h2 := runF_grows hC.1 _ _ _ _ _ _ h
      have e : oMz (.inr (b', L', st', M')) = M' := rfl
      rw [e] at h1
      exact exF_snd (o := .inr (b', L', st', M')) hG hB h19 hS hC hr1 hr2 hPr (by rw [e]; omega) (by rw [e]; omega) (fun _ _ _ _ _ _ _ e _ _ _ => by cases e) (fun b2 L2 st2 M2 e2 => by cases e2; exact ih _ _ _ _ h (by omega) (by omega)) _ _ _ _ _ (okM_blk hok hb) heq hn0 hz0
end RUN
