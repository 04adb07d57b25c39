/-! ===== every call of the abstract machine is a contract of the real one ===== -/
theorem pc_0 : ∀ k, k < 270 → pcO k 0 = 0 := by decide +kernel
theorem cls_pl : ∀ k, k < 270 → plainFor (mt k).1 = true := by decide +kernel
theorem cvV_cat {B : Nat} {SA : Nat → Nat} (v : Value) : (cvV B SA v).category = v.category := by cases v <;> rfl
theorem fl_len {B : Nat} {SA : Nat → Nat} : ∀ vs : List Value, (lg_sl (vs.map (cvV B SA))).length = (flatA vs).length := by
  intro vs
  induction vs with
  | nil => rfl
  | cons v vs ih =>
    unfold lg_sl at ih ⊢
    rw [List.map_cons, List.flatMap_cons, List.length_append, ih]
    cases v <;> simp [flatA, cvV, Value.category] <;> omega
theorem fl_args {B : Nat} {SA : Nat → Nat} : ∀ (vs : List Value) (off i : Nat) (v : Value), (flatA vs)[i]? = some v → isU v = false → (off + i, cvV B SA v) ∈ lv_args off (vs.map (cvV B SA)) := by
  intro vs
  induction vs with
  | nil => intro off i v h; simp [flatA] at h
  | cons u vs ih =>
    intro off i v h hu
    rw [List.map_cons]
    unfold lv_args
    rw [cvV_cat]
    have two : u.category = 2 → flatA (u :: vs) = u :: .retAddr 0 :: flatA vs → (off + i, cvV B SA v) ∈ (off, cvV B SA u) :: lv_args (if u.category = 2 then off + 2 else off + 1) (vs.map (cvV B SA)) := by
      intro h2 hf
      rw [hf] at h
      rw [if_pos h2]
      match i, h with
      | 0, h => cases h; exact List.mem_cons_self
      | 1, h => cases h; cases hu
      | i + 2, h =>
        have := ih (off + 2) i v (by simpa using h) hu
        rw [show off + (i + 2) = off + 2 + i by omega]
        exact List.mem_cons_of_mem _ this
    have one : u.category ≠ 2 → flatA (u :: vs) = u :: flatA vs → (off + i, cvV B SA v) ∈ (off, cvV B SA u) :: lv_args (if u.category = 2 then off + 2 else off + 1) (vs.map (cvV B SA)) := by
      intro h2 hf
      rw [hf] at h
      rw [if_neg h2]
      match i, h with
      | 0, h => cases h; exact List.mem_cons_self
      | i + 1, h =>
        have := ih (off + 1) i v (by simpa using h) hu
        rw [show off + (i + 1) = off + 1 + i by omega]
        exact List.mem_cons_of_mem _ this
    cases u with
    | long x => exact two rfl rfl
    | double x => exact two rfl rfl
    | int x => exact one (by simp [Value.category]) rfl
    | float x => exact one (by simp [Value.category]) rfl
    | null => exact one (by simp [Value.category]) rfl
    | ref x => exact one (by simp [Value.category]) rfl
    | retAddr x => exact one (by simp [Value.category]) rfl
theorem LO_entry {B : Nat} {SA : Nat → Nat} {k : Nat} {vs : List Value} (h : (flatA vs).length ≤ ML k) : LO B SA (ML k) ((lg_sl (vs.map (cvV B SA)) ++ List.replicate (ML k - (lg_sl (vs.map (cvV B SA))).length) Slot.unset).toArray) (entL k vs) := by
  have hl := lv_entry (vs.map (cvV B SA)) (n := ML k) (by rw [fl_len]; exact h)
  refine ⟨?_, hl.1, hl.2.1, fun q hq => hl.2.2 q ?_⟩
  · unfold entL; rw [List.length_append, List.length_replicate]; omega
  · obtain ⟨v, h1, h2, h3⟩ := lvo_mem.mp hq
    obtain ⟨i, u⟩ := q
    simp only at h1 h3
    subst h3
    unfold entL at h1
    rcases Nat.lt_or_ge i (flatA vs).length with hi | hi
    · rw [List.getElem?_append_left hi] at h1
      have := fl_args (B := B) (SA := SA) vs 0 i v h1 h2
      rw [Nat.zero_add] at this
      exact this
    · rw [List.getElem?_append_right hi] at h1
      have := List.eq_of_mem_replicate (List.mem_of_getElem? h1)
      subst this
      cases h2
/-- the strings' methods, said later -/
def PrH (l : Launch) (s0 : State) (D : va_G) (cy : Nat → ClassId) (B : Nat) (H0 : Heap) (SA : Nat → Nat) (X : Nat × (Nat → Int32)) : Prop := ∀ (d : Nat) (p : Program) (e : Env) (R : Room) (s : State) (m : MethodId) (args : Array Value) (below : List Frame) (meth : Method) (c : Code) (Q : State → Prop) (mi n0 z0 : Nat), BB s0 p s m meth c mi → mC mi < 19 → d + 1 ≤ R.frames → 100 * d + 100 ≤ R.locals → PrA p l e R s m args below meth c Q D cy B H0 SA mi n0 z0 (callF X d)
theorem prim_mem {mi : Nat} {vs : List Value} {M : Mem} {r : Option Value × Mem} (h : prim mi vs M = some r) : r.2 = M := by
  unfold prim at h
  repeat' (split at h)
  all_goals first
    | (cases h; done)
    | (cases h; rfl)
theorem callF_inv {X : Nat × (Nat → Int32)} {d k : Nat} {vs : List Value} {M : Mem} {r : Option Value × Mem} (h : callF X (d + 1) k vs M = some r) : (k < 1000 ∧ (flatA vs).length ≤ ML k ∧ ∃ n, runF (callF X d) X k n 0 (entL k vs) [] M = some r) ∨ (1000 ≤ k ∧ 8 ≤ d ∧ prim k vs M = some r) := by
  have h : (if k < 1000 then (if (flatA vs).length ≤ ML k then lim (fun n => runF (callF X d) X k n 0 (entL k vs) [] M) else none) else if 8 ≤ d then prim k vs M else none) = some r := h
  split at h
  · next hk =>
    split at h
    · next hf => exact Or.inl ⟨hk, hf, lim_some h⟩
    · cases h
  · next hk =>
    split at h
    · next hd => exact Or.inr ⟨by omega, hd, h⟩
    · cases h
section RET
variable {p : Program} {l : Launch} {e : Env} {R : Room} {s s0 : State} {m : MethodId} {args : Array Value} {below : List Frame} {meth : Method} {c : Code} {D : va_G} {cy : Nat → ClassId} {B : Nat} {H0 : Heap} {SA : Nat → Nat} {mi n0 z0 : Nat} {cal : Nat → List Value → Mem → Ans} {X : Nat × (Nat → Int32)} {rr : Option Value × Mem}
theorem s_rt_inj {v : Option Value} {M : Mem} (h : s_rt v M = some (.inr (.inl rr))) : rr = (v, M) := by unfold s_rt at h; cases h; rfl
theorem ret_snd (hB : BB s0 p s m meth c mi) (bk pc len : Nat) (a : AI) (L st : List Value) (M : Mem) (hd : decode (mt mi).2.1 pc = .ok (a.1, len)) (hok : okI mi bk pc a len = true) (hst : stp cal X swt bk a L st M = some (.inr (.inl rr))) : WP p l e R s m args below meth c (MQ below (QcA D cy B H0 SA rr) args s (m_n rr.2 - n0) (m_z rr.2 - z0) (fun q => B ≤ q)) D cy B H0 SA mi n0 z0 (pc) (L) (st) (M) := by
  have hT := stp_ctl hst
  obtain ⟨i, r1, r2, r3⟩ := a
  cases i with
  | ireturn =>
    simp only [okI, Bool.and_eq_true, decide_eq_true_eq] at hok
    obtain ⟨rfl, hok⟩ := hok
    simp only [stp] at hst
    split at hst
    · next x =>
      rcases r1 with _ | r1
      · have hst : s_rt (some (.int x)) M = _ := hst
        have hok : (mt mi).2.2.1 = some .int := of_decide_eq_true hok
        have e := s_rt_inj hst
        subst e
        intro H locs ls hL hR hl
        exact W.iret hB.1 hB.2.1 (by rw [hB.2.2.2.2.2.1]; exact hok) (fun t ht hW => ⟨rfl, by rw [ht]; exact hR⟩) hl hd (hlocks := hB.2.2.2.2.2.2.1)
      · have hst : (if x &&& 1 = x then s_rt (some (.int x)) M else none) = _ := hst
        have hok : (mt mi).2.2.1 = some .boolean := of_decide_eq_true hok
        split at hst
        · next hx =>
          have e := s_rt_inj hst
          subst e
          intro H locs ls hL hR hl
          exact W.zret (ty := .boolean) (v := x) hB.1 hB.2.1 (by rw [hB.2.2.2.2.2.1]; exact hok) (congrArg Value.int hx) (fun t ht hW => ⟨rfl, by rw [ht]; exact hR⟩) hl hd (hlocks := hB.2.2.2.2.2.2.1)
        · cases hst
    · cases hst
  | lreturn =>
    simp only [okI, Bool.and_eq_true, decide_eq_true_eq] at hok
    obtain ⟨rfl, hok⟩ := hok
    simp only [stp] at hst
    split at hst
    · next x =>
      have e := s_rt_inj hst
      subst e
      intro H locs ls hL hR hl
      exact W.lret hB.1 hB.2.1 (by rw [hB.2.2.2.2.2.1]; exact hok) (fun t ht hW => ⟨rfl, by rw [ht]; exact hR⟩) hl hd (hlocks := hB.2.2.2.2.2.2.1)
    · cases hst
  | return_ =>
    simp only [okI, Bool.and_eq_true, decide_eq_true_eq] at hok
    obtain ⟨rfl, hok⟩ := hok
    simp only [stp] at hst
    split at hst
    · have e := s_rt_inj hst
      subst e
      intro H locs ls hL hR hl
      exact W.vret hB.1 hB.2.1 (by rw [hB.2.2.2.2.2.1]; exact hok) (fun t ht hW => ⟨rfl, by rw [ht]; exact hR⟩) hl hd (hlocks := hB.2.2.2.2.2.2.1)
    · cases hst
  | goto _ => cases hst
  | if_icmp _ _ => simp only [stp] at hst; split at hst <;> first | (cases hst; done) | (split at hst <;> cases hst)
  | ifCond _ _ => simp only [stp] at hst; split at hst <;> first | (cases hst; done) | (split at hst <;> cases hst)
  | tableswitch _ _ _ _ => simp only [stp] at hst; split at hst <;> first | (cases hst; done) | (rw [swj_r] at hst; cases hst)
  | lookupswitch _ _ => simp only [stp] at hst; split at hst <;> first | (cases hst; done) | (rw [swj_r] at hst; cases hst)
  | _ => cases hT
end RET
theorem callF_snd {l : Launch} {s0 : State} {D : va_G} {cy : Nat → ClassId} {B : Nat} {H0 : Heap} {SA : Nat → Nat} {X : Nat × (Nat → Int32)} (hG : GG s0 D cy) (hS : SC s0 H0 B SA X) (hP : PrH l s0 D cy B H0 SA X) (hOk : ∀ mi, mi < 270 → okM mi = true) : ∀ d, CK l s0 D cy B H0 SA d (callF X d) := by
  intro d
  induction d with
  | zero => exact ⟨fun k vs M r h => (by cases h), fun k vs M r h => (by cases h)⟩
  | succ d ih =>
    refine ⟨fun k vs M r h => ?_, fun k vs M r h hk => ?_⟩
    · rcases callF_inv h with ⟨-, -, n, hn⟩ | ⟨-, -, hp⟩
      · exact runF_grows ih.1 _ _ _ _ _ _ hn
      · rw [prim_mem hp]; exact ⟨Nat.le_refl _, Nat.le_refl _⟩
    · rcases callF_inv h with ⟨-, hf, n, hn⟩ | ⟨h1, -, -⟩
      · refine va_MetF (cc := (mt k).2.1) (maxL := ML k) (ret := (mt k).2.2.1) (cls_pl k hk) rfl ?_
        intro p e s m args below meth c s₁ Bd hml hv
        obtain ⟨ha, hRep, hW⟩ := hv
        subst ha
        have hB : BB s0 p s m meth c k := ⟨Bd.exec, Bd.bytes, hml, by have := findClass_of_methodNamed Bd.named; rw [mt_cls k hk] at this; exact this, hW, Bd.returns, Bd.notSynchronized, fun h => (name_of_methodNamed Bd.named Bd.method).1.trans (ctr_nm k h)⟩
        have hg := runF_grows ih.1 _ _ _ _ _ _ hn
        have hrun := runF_snd (p := p) (e := e) (R := RMd (d + 1) (m_n r.2 - m_n M) (m_z r.2 - m_z M)) (args := (vs.map (cvV B SA)).toArray) (below := below) (Q := MQ below (QcA D cy B H0 SA r) (vs.map (cvV B SA)).toArray s (m_n r.2 - m_n M) (m_z r.2 - m_z M) (fun q => B ≤ q)) (n0 := m_n M) (z0 := m_z M) hG hB (hOk k hk) hS ih (Nat.le_refl _) (by show 100 * d + 100 ≤ 100 * (d + 1); omega) (hP d p e _ s m _ below meth c _ k _ _ hB (mc_19 k hk) (Nat.le_refl _) (by show 100 * d + 100 ≤ 100 * (d + 1); omega)) (Nat.le_refl _) (Nat.le_refl _)
          (fun bk pc len a L st M' hd hoi hst => ret_snd hB bk pc len a L st M' hd hoi hst) n 0 (entL k vs) [] M hn (Nat.le_refl _) (Nat.le_refl _)
        rw [lg_entry_eq]
        have h1 := hrun s.heap [] _ (LO_entry hf) hRep (fun q hq => by cases hq)
        rw [Nat.sub_self, Nat.sub_self, pc_0 k hk] at h1
        exact h1
      · omega
