/-! ===== all steps; jumps; returns ===== -/
section STEP4
variable {p : Program} {l : Launch} {e : Env} {R : Room} {s s0 : State} {m : MethodId} {args : Array Value} {below : List Frame} {meth : Method} {c : Code} {Q : State → Prop} {D : va_G} {cy : Nat → ClassId} {B : Nat} {H0 : Heap} {SA : Nat → Nat} {mi n0 z0 : Nat} {pc : Nat} {L st : List Value} {M : Mem} {cal : Nat → List Value → Mem → Ans} {X : Nat × (Nat → Int32)} {bk len : Nat} {L' st' : List Value} {M' : Mem}
def PrA (p : Program) (l : Launch) (e : Env) (R : Room) (s : State) (m : MethodId) (args : Array Value) (below : List Frame) (meth : Method) (c : Code) (Q : State → Prop) (D : va_G) (cy : Nat → ClassId) (B : Nat) (H0 : Heap) (SA : Nat → Nat) (mi n0 z0 : Nat) (cal : Nat → List Value → Mem → Ans) : Prop := (∀ (L : List Value) (M : Mem) (pc k i : Nat) (vs st : List Value) (r : Option Value × Mem), 1000 ≤ k → (i, k) ∈ cst (mC mi) → st.length ≤ 4 → cal k vs M = some r → m_n r.2 - n0 ≤ R.cells → m_z r.2 - z0 ≤ R.slots → decode (mt mi).2.1 pc = .ok (.invokevirtual i, 3) → WP p l e R s m args below meth c Q D cy B H0 SA mi n0 z0 (pc + 3) (L) (psh r.1 st) (r.2) → WP p l e R s m args below meth c Q D cy B H0 SA mi n0 z0 (pc) (L) (vs.reverse ++ st) (M))
set_option maxHeartbeats 4000000 in
theorem stp_snd (hG : GG s0 D cy) (hB : BB s0 p s m meth c mi) (h19 : mC mi < 19) (hS : SC s0 H0 B SA X) {d : Nat} (hC : CK l s0 D cy B H0 SA d cal) (hr1 : d + 1 ≤ R.frames) (hr2 : 100 * d + 100 ≤ R.locals) (hn0 : n0 ≤ m_n M) (hz0 : z0 ≤ m_z M) (hc1 : m_n M' - n0 ≤ R.cells) (hc2 : m_z M' - z0 ≤ R.slots) (hPr : PrA p l e R s m args below meth c Q D cy B H0 SA mi n0 z0 cal) {a : AI}
    (hd : decode (mt mi).2.1 pc = .ok (a.1, len)) (hok : okI mi bk pc a len = true) (hst : stp cal X swt bk a L st M = some (.inl (L', st', M'))) (k : WP p l e R s m args below meth c Q D cy B H0 SA mi n0 z0 (pc + len) (L') (st') (M')) : WP p l e R s m args below meth c Q D cy B H0 SA mi n0 z0 (pc) (L) (st) (M) := by
  obtain ⟨i, r1, r2, r3⟩ := a
  cases i with
  | iconst n => exact st_iconst hG hB h19 hd hok hst k
  | bipush n => exact st_bipush hG hB h19 hd hok hst k
  | sipush n => exact st_sipush hG hB h19 hd hok hst k
  | ldc i => exact st_ldc hG hB h19 (fun k q hq => fun {args} {U} hW => vk_R.warm hW (hS.2.2 k q hq)) hd hok hst k
  | ldc_w i => exact st_ldc_w hG hB h19 hd hok hst k
  | lconst n => exact st_lconst hG hB h19 hd hok hst k
  | ldc2_w i => exact st_ldc2_w hG hB h19 hd hok hst k
  | iload i => exact st_iload hG hB h19 hd hok hst k
  | iload_n i => exact st_iload_n hG hB h19 hd hok hst k
  | lload i => exact st_lload hG hB h19 hd hok hst k
  | lload_n i => exact st_lload_n hG hB h19 hd hok hst k
  | aload i => exact st_aload hG hB h19 hd hok hst k
  | aload_n i => exact st_aload_n hG hB h19 hd hok hst k
  | istore i => exact st_istore hG hB h19 hd hok hst k
  | istore_n i => exact st_istore_n hG hB h19 hd hok hst k
  | astore i => exact st_astore hG hB h19 hd hok hst k
  | astore_n i => exact st_astore_n hG hB h19 hd hok hst k
  | lstore i => exact st_lstore hG hB h19 hd hok hst k
  | lstore_n i => exact st_lstore_n hG hB h19 hd hok hst k
  | iinc i n => exact st_iinc hG hB h19 hd hok hst k
  | iadd => exact st_iadd hG hB h19 hd hok hst k
  | isub => exact st_isub hG hB h19 hd hok hst k
  | imul => exact st_imul hG hB h19 hd hok hst k
  | iand => exact st_iand hG hB h19 hd hok hst k
  | ior => exact st_ior hG hB h19 hd hok hst k
  | ixor => exact st_ixor hG hB h19 hd hok hst k
  | ineg => exact st_ineg hG hB h19 hd hok hst k
  | ishl => exact st_ishl hG hB h19 hd hok hst k
  | ishr => exact st_ishr hG hB h19 hd hok hst k
  | iushr => exact st_iushr hG hB h19 hd hok hst k
  | ladd => exact st_ladd hG hB h19 hd hok hst k
  | lsub => exact st_lsub hG hB h19 hd hok hst k
  | lmul => exact st_lmul hG hB h19 hd hok hst k
  | land => exact st_land hG hB h19 hd hok hst k
  | lor => exact st_lor hG hB h19 hd hok hst k
  | lxor => exact st_lxor hG hB h19 hd hok hst k
  | lneg => exact st_lneg hG hB h19 hd hok hst k
  | lshl => exact st_lshl hG hB h19 hd hok hst k
  | lushr => exact st_lushr hG hB h19 hd hok hst k
  | lcmp => exact st_lcmp hG hB h19 hd hok hst k
  | i2l => exact st_i2l hG hB h19 hd hok hst k
  | l2i => exact st_l2i hG hB h19 hd hok hst k
  | i2c => exact st_i2c hG hB h19 hd hok hst k
  | dup2 => exact st_dup2 hG hB h19 hd hok hst k
  | idiv => exact st_idiv hG hB h19 hd hok hst k
  | irem => exact st_irem hG hB h19 hd hok hst k
  | dup => exact st_dup hG hB h19 hd hok hst k
  | pop => exact st_pop hG hB h19 hd hok hst k
  | getfield i => exact st_getfield hG hB h19 hd hok hst k
  | putfield i => exact st_putfield hG hB h19 ctr_nm hd hok hst k
  | laload => exact st_laload hG hB h19 hd hok hst k
  | baload => exact st_baload hG hB h19 hd hok hst k
  | aaload => exact st_aaload hG hB h19 hd hok hst k
  | iastore => exact st_iastore hG hB h19 hd hok hst k
  | lastore => exact st_lastore hG hB h19 hd hok hst k
  | aastore => exact st_aastore hG hB h19 hd hok hst k
  | bastore => exact st_bastore hG hB h19 hd hok hst k
  | new i => exact st_new hG hB h19 hn0 hz0 hc1 hc2 hd hok hst k
  | newarray t => exact st_newarray hG hB h19 hn0 hz0 hc1 hc2 hd hok hst k
  | anewarray i => exact st_anewarray hG hB h19 hn0 hz0 hc1 hc2 hd hok hst k
  | iaload => exact st_iald hG hB h19 hS hd hok hst k
  | arraylength => exact st_alen hG hB h19 hS hd hok hst k
  | invokevirtual i => exact st_invokevirtual hG hB h19 hC hr1 hr2 hn0 hz0 hc1 hc2 (fun i vs st r h1 h2 h3 h4 h5 h6 h7 h8 => hPr _ _ _ _ i vs st r h1 h2 h3 h4 h5 h6 h7 h8) hd hok hst k
  | invokestatic i => exact st_invokestatic hG hB h19 hC hr1 hr2 hn0 hz0 hc1 hc2 hd hok hst k
  | invokespecial i => exact st_invokespecial hG hB h19 hC hr1 hr2 hn0 hz0 hc1 hc2 hd hok hst k
  | goto _ => cases hst
  | if_icmp _ _ => simp only [stp] at hst; split at hst <;> first | (cases hst; done) | (split at hst <;> cases hst)
  | ifCond _ _ => simp only [stp] at hst; split at hst <;> first | (cases hst; done) | (split at hst <;> cases hst)
  | tableswitch _ _ _ _ => simp only [stp] at hst; split at hst <;> first | (cases hst; done) | exact (swj_nl hst).elim
  | lookupswitch _ _ => simp only [stp] at hst; split at hst <;> first | (cases hst; done) | exact (swj_nl hst).elim
  | ireturn => simp only [stp] at hst; split at hst <;> first | (cases hst; done) | (split at hst <;> first | (cases hst; done) | (split at hst <;> cases hst))
  | lreturn => simp only [stp] at hst; split at hst <;> cases hst
  | return_ => simp only [stp] at hst; split at hst <;> cases hst
  | _ => cases hst
def swr : List (Nat × Nat) → Nat → Int32 → Nat
  | [], d, _ => d
  | q :: t, d, x => if x = nI q.1 then q.2 else swr t d x
theorem swj_r (t : List (Nat × Nat)) (d : Nat) (x : Int32) (L st : List Value) (M : Mem) : swj t d x L st M = s_jp (swr t d x) L st M := by
  induction t with
  | nil => rfl
  | cons q t ih => unfold swj swr; split; · rfl
                   · exact ih
theorem ts_go {mi pc d : Nat} {x : Int32} : ∀ (t : List (Nat × Nat)) (os : List Int) (lo : Int), tsOK mi pc lo os t = true → 0 ≤ lo → lo + (os.length : Int) ≤ 2147483648 → (∃ (i : Nat) (off : Int), os[i]? = some off ∧ x.toInt = lo + (i : Int) ∧ (pc : Int) + off = (pcO mi (swr t d x) : Int)) ∨ ((x.toInt < lo ∨ lo + (os.length : Int) ≤ x.toInt) ∧ swr t d x = d) := by
  intro t
  induction t with
  | nil =>
    intro os lo h h0 h1
    cases os with
    | nil => right; refine ⟨?_, rfl⟩; simp; omega
    | cons o os => simp [tsOK] at h
  | cons q t ih =>
    intro os lo h h0 h1
    cases os with
    | nil => simp [tsOK] at h
    | cons o os =>
      simp only [tsOK, Bool.and_eq_true, decide_eq_true_eq] at h
      obtain ⟨⟨e1, e2⟩, e3⟩ := h
      rw [List.length_cons] at h1
      have hq : q.1 < 2 ^ 31 := by omega
      unfold swr
      by_cases hx : x = nI q.1
      · left
        rw [if_pos hx]
        exact ⟨0, o, rfl, by rw [hx, nI_toInt hq]; omega, e2⟩
      · rw [if_neg hx]
        rcases ih os (lo + 1) e3 (by omega) (by omega) with ⟨i, off, g1, g2, g3⟩ | ⟨g1, g2⟩
        · left; exact ⟨i + 1, off, by simpa using g1, by rw [g2]; push_cast; omega, g3⟩
        · right
          refine ⟨?_, g2⟩
          rw [List.length_cons]
          have hne : x.toInt ≠ lo := by
            intro he
            apply hx
            have : x.toInt = (nI q.1).toInt := by rw [nI_toInt hq, he, e1]
            exact Int32.toInt_inj.mp this
          push_cast
          omega
theorem ls_go {mi pc : Nat} {dd : Int} {d : Nat} {x : Int32} (hdd : (pc : Int) + dd = (pcO mi d : Int)) : ∀ (t : List (Nat × Nat)) (os : List (Int × Int)), lsOK mi pc os t = true → (pc : Int) + Op.lookupswitch.offset os dd x.toInt = (pcO mi (swr t d x) : Int) := by
  intro t
  induction t with
  | nil =>
    intro os h
    cases os with
    | nil => exact hdd
    | cons o os => simp [lsOK] at h
  | cons q t ih =>
    intro os h
    cases os with
    | nil => simp [lsOK] at h
    | cons o os =>
      simp only [lsOK, Bool.and_eq_true, decide_eq_true_eq] at h
      obtain ⟨⟨⟨e1, e2⟩, e3⟩, e4⟩ := h
      unfold swr
      by_cases hx : x = nI q.1
      · rw [if_pos hx]
        have : o.1 = x.toInt := by rw [hx, nI_toInt (by omega), e1]
        simp [Op.lookupswitch.offset, this, e3]
      · rw [if_neg hx]
        have hne : ¬ o.1 = x.toInt := by
          intro he
          apply hx
          have : x.toInt = (nI q.1).toInt := by rw [nI_toInt (by omega), ← he, e1]
          exact Int32.toInt_inj.mp this
        have := ih os e4
        simpa [Op.lookupswitch.offset, hne] using this
theorem s_jp_inj {b b' : Nat} {L st L' st' : List Value} {M M' : Mem} (h : s_jp b L st M = some (.inr (.inr (b', L', st', M')))) : b' = b ∧ L' = L ∧ st' = st ∧ M' = M := by
  unfold s_jp at h
  cases h
  exact ⟨rfl, rfl, rfl, rfl⟩
theorem jp_icmp (hB : BB s0 p s m meth c mi) {cd : Jvm.ClassFile.Cond} {off : Int} {r1 r2 r3 b' : Nat} (hd : decode (mt mi).2.1 pc = .ok (.if_icmp cd off, len)) (hok : okI mi bk pc (.if_icmp cd off, r1, r2, r3) len = true) (hst : stp cal X swt bk (.if_icmp cd off, r1, r2, r3) L st M = some (.inr (.inr (b', L', st', M')))) (k : WP p l e R s m args below meth c Q D cy B H0 SA mi n0 z0 (pcO mi b') (L') (st') (M')) : WP p l e R s m args below meth c Q D cy B H0 SA mi n0 z0 (pc) (L) (st) (M) := by
  simp only [okI, brOK, Bool.and_eq_true, decide_eq_true_eq] at hok
  obtain ⟨⟨rfl, ht⟩, hn⟩ := hok
  simp only [stp] at hst
  split at hst
  · next y x st0 =>
    cases cd with
    | eq =>
      refine sn_icmp_eq hB ht hd (fun h => ?_) (fun h => ?_)
      · rw [if_pos (show icnd .eq x y = true from decide_eq_true h)] at hst; obtain ⟨e1, e2, e3, e4⟩ := s_jp_inj hst; subst e1; subst e2; subst e3; subst e4; exact k
      · rw [if_neg (show ¬ icnd .eq x y = true from fun q => h (of_decide_eq_true q))] at hst; obtain ⟨e1, e2, e3, e4⟩ := s_jp_inj hst; subst e1; subst e2; subst e3; subst e4; rw [← hn]; exact k
    | ne =>
      refine sn_icmp_ne hB ht hd (fun h => ?_) (fun h => ?_)
      · rw [if_pos (show icnd .ne x y = true from decide_eq_true h)] at hst; obtain ⟨e1, e2, e3, e4⟩ := s_jp_inj hst; subst e1; subst e2; subst e3; subst e4; exact k
      · rw [if_neg (show ¬ icnd .ne x y = true from fun q => h (of_decide_eq_true q))] at hst; obtain ⟨e1, e2, e3, e4⟩ := s_jp_inj hst; subst e1; subst e2; subst e3; subst e4; rw [← hn]; exact k
    | lt =>
      refine sn_icmp_lt hB ht hd (fun h => ?_) (fun h => ?_)
      · rw [if_pos (show icnd .lt x y = true from decide_eq_true h)] at hst; obtain ⟨e1, e2, e3, e4⟩ := s_jp_inj hst; subst e1; subst e2; subst e3; subst e4; exact k
      · rw [if_neg (show ¬ icnd .lt x y = true from fun q => h (of_decide_eq_true q))] at hst; obtain ⟨e1, e2, e3, e4⟩ := s_jp_inj hst; subst e1; subst e2; subst e3; subst e4; rw [← hn]; exact k
    | ge =>
      refine sn_icmp_ge hB ht hd (fun h => ?_) (fun h => ?_)
      · rw [if_pos (show icnd .ge x y = true from decide_eq_true h)] at hst; obtain ⟨e1, e2, e3, e4⟩ := s_jp_inj hst; subst e1; subst e2; subst e3; subst e4; exact k
      · rw [if_neg (show ¬ icnd .ge x y = true from fun q => h (of_decide_eq_true q))] at hst; obtain ⟨e1, e2, e3, e4⟩ := s_jp_inj hst; subst e1; subst e2; subst e3; subst e4; rw [← hn]; exact k
    | gt =>
      refine sn_icmp_gt hB ht hd (fun h => ?_) (fun h => ?_)
      · rw [if_pos (show icnd .gt x y = true from decide_eq_true h)] at hst; obtain ⟨e1, e2, e3, e4⟩ := s_jp_inj hst; subst e1; subst e2; subst e3; subst e4; exact k
      · rw [if_neg (show ¬ icnd .gt x y = true from fun q => h (of_decide_eq_true q))] at hst; obtain ⟨e1, e2, e3, e4⟩ := s_jp_inj hst; subst e1; subst e2; subst e3; subst e4; rw [← hn]; exact k
    | le =>
      refine sn_icmp_le hB ht hd (fun h => ?_) (fun h => ?_)
      · rw [if_pos (show icnd .le x y = true from decide_eq_true h)] at hst; obtain ⟨e1, e2, e3, e4⟩ := s_jp_inj hst; subst e1; subst e2; subst e3; subst e4; exact k
      · rw [if_neg (show ¬ icnd .le x y = true from fun q => h (of_decide_eq_true q))] at hst; obtain ⟨e1, e2, e3, e4⟩ := s_jp_inj hst; subst e1; subst e2; subst e3; subst e4; rw [← hn]; exact k
  · cases hst
theorem jp_if (hB : BB s0 p s m meth c mi) {cd : Jvm.ClassFile.Cond} {off : Int} {r1 r2 r3 b' : Nat} (hd : decode (mt mi).2.1 pc = .ok (.ifCond cd off, len)) (hok : okI mi bk pc (.ifCond cd off, r1, r2, r3) len = true) (hst : stp cal X swt bk (.ifCond cd off, r1, r2, r3) L st M = some (.inr (.inr (b', L', st', M')))) (k : WP p l e R s m args below meth c Q D cy B H0 SA mi n0 z0 (pcO mi b') (L') (st') (M')) : WP p l e R s m args below meth c Q D cy B H0 SA mi n0 z0 (pc) (L) (st) (M) := by
  simp only [okI, brOK, Bool.and_eq_true, decide_eq_true_eq] at hok
  obtain ⟨⟨rfl, ht⟩, hn⟩ := hok
  simp only [stp] at hst
  split at hst
  · next x st0 =>
    cases cd with
    | eq =>
      refine sn_if_eq hB ht hd (fun h => ?_) (fun h => ?_)
      · rw [if_pos (show icnd .eq x 0 = true from decide_eq_true h)] at hst; obtain ⟨e1, e2, e3, e4⟩ := s_jp_inj hst; subst e1; subst e2; subst e3; subst e4; exact k
      · rw [if_neg (show ¬ icnd .eq x 0 = true from fun q => h (of_decide_eq_true q))] at hst; obtain ⟨e1, e2, e3, e4⟩ := s_jp_inj hst; subst e1; subst e2; subst e3; subst e4; rw [← hn]; exact k
    | ne =>
      refine sn_if_ne hB ht hd (fun h => ?_) (fun h => ?_)
      · rw [if_pos (show icnd .ne x 0 = true from decide_eq_true h)] at hst; obtain ⟨e1, e2, e3, e4⟩ := s_jp_inj hst; subst e1; subst e2; subst e3; subst e4; exact k
      · rw [if_neg (show ¬ icnd .ne x 0 = true from fun q => h (of_decide_eq_true q))] at hst; obtain ⟨e1, e2, e3, e4⟩ := s_jp_inj hst; subst e1; subst e2; subst e3; subst e4; rw [← hn]; exact k
    | lt =>
      refine sn_if_lt hB ht hd (fun h => ?_) (fun h => ?_)
      · rw [if_pos (show icnd .lt x 0 = true from decide_eq_true h)] at hst; obtain ⟨e1, e2, e3, e4⟩ := s_jp_inj hst; subst e1; subst e2; subst e3; subst e4; exact k
      · rw [if_neg (show ¬ icnd .lt x 0 = true from fun q => h (of_decide_eq_true q))] at hst; obtain ⟨e1, e2, e3, e4⟩ := s_jp_inj hst; subst e1; subst e2; subst e3; subst e4; rw [← hn]; exact k
    | ge =>
      refine sn_if_ge hB ht hd (fun h => ?_) (fun h => ?_)
      · rw [if_pos (show icnd .ge x 0 = true from decide_eq_true h)] at hst; obtain ⟨e1, e2, e3, e4⟩ := s_jp_inj hst; subst e1; subst e2; subst e3; subst e4; exact k
      · rw [if_neg (show ¬ icnd .ge x 0 = true from fun q => h (of_decide_eq_true q))] at hst; obtain ⟨e1, e2, e3, e4⟩ := s_jp_inj hst; subst e1; subst e2; subst e3; subst e4; rw [← hn]; exact k
    | gt =>
      refine sn_if_gt hB ht hd (fun h => ?_) (fun h => ?_)
      · rw [if_pos (show icnd .gt x 0 = true from decide_eq_true h)] at hst; obtain ⟨e1, e2, e3, e4⟩ := s_jp_inj hst; subst e1; subst e2; subst e3; subst e4; exact k
      · rw [if_neg (show ¬ icnd .gt x 0 = true from fun q => h (of_decide_eq_true q))] at hst; obtain ⟨e1, e2, e3, e4⟩ := s_jp_inj hst; subst e1; subst e2; subst e3; subst e4; rw [← hn]; exact k
    | le =>
      refine sn_if_le hB ht hd (fun h => ?_) (fun h => ?_)
      · rw [if_pos (show icnd .le x 0 = true from decide_eq_true h)] at hst; obtain ⟨e1, e2, e3, e4⟩ := s_jp_inj hst; subst e1; subst e2; subst e3; subst e4; exact k
      · rw [if_neg (show ¬ icnd .le x 0 = true from fun q => h (of_decide_eq_true q))] at hst; obtain ⟨e1, e2, e3, e4⟩ := s_jp_inj hst; subst e1; subst e2; subst e3; subst e4; rw [← hn]; exact k
  · cases hst
theorem jp_tsw (hB : BB s0 p s m meth c mi) {dd lo hi : Int} {offs : Array Int} {r1 r2 r3 b' : Nat} (hd : decode (mt mi).2.1 pc = .ok (.tableswitch dd lo hi offs, len)) (hok : okI mi bk pc (.tableswitch dd lo hi offs, r1, r2, r3) len = true) (hst : stp cal X swt bk (.tableswitch dd lo hi offs, r1, r2, r3) L st M = some (.inr (.inr (b', L', st', M')))) (k : WP p l e R s m args below meth c Q D cy B H0 SA mi n0 z0 (pcO mi b') (L') (st') (M')) : WP p l e R s m args below meth c Q D cy B H0 SA mi n0 z0 (pc) (L) (st) (M) := by
  simp only [okI, Bool.and_eq_true, decide_eq_true_eq] at hok
  obtain ⟨⟨⟨⟨⟨h1, h2⟩, h3⟩, h4⟩, h5⟩, h6⟩ := hok
  simp only [stp] at hst
  split at hst
  · next x st0 =>
    rw [swj_r] at hst
    obtain ⟨e1, e2, e3, e4⟩ := s_jp_inj hst; subst e1; subst e2; subst e3; subst e4;
    have hsz : (offs.toList.length : Int) = (offs.size : Int) := by rw [Array.length_toList]
    intro H locs ls hL hR hl
    rcases ts_go (d := r1) (x := x) (swt r2) offs.toList lo h2 h4 (by omega) with ⟨i, off, g1, g2, g3⟩ | ⟨g1, g2⟩
    · have hi : i < offs.size := by rw [← Array.length_toList]; exact (List.getElem?_eq_some_iff.mp g1).1
      exact lv_tableIn hB.1 hB.2.1 hd (by omega) (by omega) (by rw [g2, show (lo + (i : Int) - lo).toNat = i by omega, ← Array.getElem?_toList]; exact g1) g3 (k H locs ls hL hR hl)
    · rw [g2] at k
      exact lv_tableOut hB.1 hB.2.1 hd (by omega) h1 (k H locs ls hL hR hl)
  · cases hst
theorem jp_lsw (hB : BB s0 p s m meth c mi) {dd : Int} {ps : Array (Int × Int)} {r1 r2 r3 b' : Nat} (hd : decode (mt mi).2.1 pc = .ok (.lookupswitch dd ps, len)) (hok : okI mi bk pc (.lookupswitch dd ps, r1, r2, r3) len = true) (hst : stp cal X swt bk (.lookupswitch dd ps, r1, r2, r3) L st M = some (.inr (.inr (b', L', st', M')))) (k : WP p l e R s m args below meth c Q D cy B H0 SA mi n0 z0 (pcO mi b') (L') (st') (M')) : WP p l e R s m args below meth c Q D cy B H0 SA mi n0 z0 (pc) (L) (st) (M) := by
  simp only [okI, Bool.and_eq_true, decide_eq_true_eq] at hok
  obtain ⟨⟨h1, h2⟩, h3⟩ := hok
  simp only [stp] at hst
  split at hst
  · next x st0 =>
    rw [swj_r] at hst
    obtain ⟨e1, e2, e3, e4⟩ := s_jp_inj hst; subst e1; subst e2; subst e3; subst e4;
    intro H locs ls hL hR hl
    exact lv_lookup hB.1 hB.2.1 hd h3 rfl (ls_go h1 (swt r2) ps.toList h2) (k H locs ls hL hR hl)
  · cases hst
end STEP4
