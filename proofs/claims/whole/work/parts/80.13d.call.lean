/-! ===== copies of rows, calls, the contract of a method ===== -/
theorem natw : nativeFrameWords "java/lang/System" "arraycopy" 5 + 11 ≤ 80 := by decide +kernel
section CPY
variable {p : Program} {l : Launch} {e : Env} {R : Room} {s s0 : State} {m : MethodId} {args : Array Value} {below : List Frame} {meth : Method} {c : Code} {Q : State → Prop} {D : va_G} {cy : Nat → ClassId} {B : Nat} {H0 : Heap} {SA : Nat → Nat} {mi n0 z0 : Nat} {pc : Nat} {L st : List Value} {M : Mem}
set_option maxHeartbeats 1000000 in
theorem sn_acpI (hG : GG s0 D cy) (hB : BB s0 p s m meth c mi) {i o q : Nat} {n dp sp : Int32} (h19 : mC mi < 19) (hq : i ∈ act (mC mi)) (hs : st.length ≤ 4) (g1 : (m_sh M q).1 = 20) (g2 : (m_sh M o).1 = 20) (h3 : ¬ n < 0) (h2 : ¬ dp < 0) (h1 : ¬ sp < 0) (h4 : sp.toNatClampNeg + n.toNatClampNeg ≤ (m_sh M q).2) (h5 : dp.toNatClampNeg + n.toNatClampNeg ≤ (m_sh M o).2) (hf : 1 ≤ R.frames) (hlc : 100 ≤ R.locals) (hd : decode (mt mi).2.1 pc = .ok (.invokestatic i, 3))
    (kk : WP p l e R s m args below meth c Q D cy B H0 SA mi n0 z0 (pc + 3) (L) (st) (m_rI M o (va_cpy (m_I M q) (m_I M o) sp.toNatClampNeg dp.toNatClampNeg n.toNatClampNeg))) : WP p l e R s m args below meth c Q D cy B H0 SA mi n0 z0 (pc) (L) (.int n :: .int dp :: .ref o :: .int sp :: .ref q :: st) (M) := by
  intro H locs ls hL hR hl
  have hsum := cat_sum st (cvV B SA)
  have hnw := natw
  have nn : ∀ z : Int32, ¬ z < 0 → z.toInt = (z.toNatClampNeg : Int) := by
    intro z hz
    have hz0 : (0 : Int) ≤ z.toInt := by
      have := Int32.not_lt.mp hz
      simpa using Int32.le_iff_toInt_le.mp this
    show z.toInt = ((z.toInt.toNat : Nat) : Int)
    omega
  have hK := sn_K hG hB
  intro T hT X
  have hc0 : H[B + q]? = some (vp_cell (cy 20) ((m_sh M q).2, .inl (m_I M q))) := hR.arr g1 (by omega) (by omega)
  have hc1 : H[B + o]? = some (vp_cell (cy 20) ((m_sh M o).2, .inl (m_I M o))) := hR.arr g2 (by omega) (by omega)
  obtain ⟨-, k0, hk0, cm0, hkk0⟩ := (hK.2 0 _ rfl).1 (m_sh M q).2 (fun j => .int (m_I M q j))
  obtain ⟨-, k1, hk1, cm1, hkk1⟩ := (hK.2 0 _ rfl).1 (m_sh M o).2 (fun j => .int (m_I M o j))
  obtain ⟨vm', X', step⟩ := X.arraycopy hB.1 hB.2.2.2.1 (hG.word (acw_all (mC mi) h19 _ hq) rfl hB.2.2.2.2.1 args) (hG.word w_ac1 rfl hB.2.2.2.2.1 args) (hG.word w_ac2 rfl hB.2.2.2.2.1 args) (hG.word w_ac3 rfl hB.2.2.2.2.1 args) (src := B + q) (dst := B + o) (cs := vp_cell (cy 20) ((m_sh M q).2, .inl (m_I M q))) (cd := vp_cell (cy 20) ((m_sh M o).2, .inl (m_I M o))) (srcPos := sp) (destPos := dp) (n := n) (by rw [hT]; exact hc0) (by rw [hT]; exact hc1)
    (fun _ h => by cases h) (fun _ h => by cases h) (fun h => by cases h) (fun h => by cases h) hk0 hk1 hkk0 hkk1 (by simp [show refKind .int = false from rfl]) h1 h2 h3
    (by rw [nn sp h1, nn n h3]; show ¬ _ > ((arrV (cy 20) (m_sh M q).2 (fun j => .int (m_I M q j))).slots.size : Int); rw [arrV_size]; omega)
    (by rw [nn dp h2, nn n h3]; show ¬ _ > ((arrV (cy 20) (m_sh M o).2 (fun j => .int (m_I M o j))).slots.size : Int); rw [arrV_size]; omega)
    (fun vm₁ _ i hi => by
      have e : (vp_cell (cy 20) ((m_sh M q).2, .inl (m_I M q))).slots.getD (sp.toNatClampNeg + i) .null = .int (m_I M q (sp.toNatClampNeg + i)) := by
        show (arrV (cy 20) (m_sh M q).2 (fun j => .int (m_I M q j))).slots.getD _ _ = _
        rw [Array.getD_eq_getD_getElem?, arrV_read _ _ (by omega)]
        rfl
      refine ⟨?_, ?_⟩
      · rw [e]; rfl
      · rw [e]; exact trivial)
    (g := F0 m pc ls ((.int n :: .int dp :: .ref o :: .int sp :: .ref q :: st : List Value).map (cvV B SA))) rfl (by rw [hB.2.2.1]; exact hL.2.1) (rest := st.map (cvV B SA)) rfl (by rw [hB.2.1]; exact hd) hf (by show 2 * 0 + _ + _ ≤ _; omega)
  have e1 : copied (vp_cell (cy 20) ((m_sh M q).2, .inl (m_I M q))) (vp_cell (cy 20) ((m_sh M o).2, .inl (m_I M o))) sp dp n = vp_cell (cy 20) ((m_sh M o).2, .inl (va_cpy (m_I M q) (m_I M o) sp.toNatClampNeg dp.toNatClampNeg n.toNatClampNeg)) := va_copied (fun z => .int z) (cy 20) (cy 20) (m_I M q) (m_I M o) h4
  rw [e1] at X' step
  have hlt : B + o < H.size := (Array.getElem?_eq_some_iff.mp hc1).1
  have hheap : ((T.setVm vm').setCell (B + o) (vp_cell (cy 20) ((m_sh M o).2, .inl (va_cpy (m_I M q) (m_I M o) sp.toNatClampNeg dp.toNatClampNeg n.toNatClampNeg)))).heap = H.setIfInBounds (B + o) (vp_cell (cy 20) ((m_sh M o).2, .inl (va_cpy (m_I M q) (m_I M o) sp.toNatClampNeg dp.toNatClampNeg n.toNatClampNeg))) := by rw [← hT]; rfl
  obtain ⟨t, a1, b1⟩ := kk _ _ ls hL (hR.put (a := o) (hR.lt g2 (by omega)) (by simp) (fun z hz => by simp [Array.getElem?_setIfInBounds, Ne.symm hz]) (by
      unfold celA
      rw [show m_sh (m_rI M o (va_cpy (m_I M q) (m_I M o) sp.toNatClampNeg dp.toNatClampNeg n.toNatClampNeg)) o = m_sh M o from rfl, g2, if_neg (by decide)]
      have e2 : (H.setIfInBounds (B + o) (vp_cell (cy 20) ((m_sh M o).2, .inl (va_cpy (m_I M q) (m_I M o) sp.toNatClampNeg dp.toNatClampNeg n.toNatClampNeg))))[B + o]? = some (vp_cell (cy 20) ((m_sh M o).2, .inl (va_cpy (m_I M q) (m_I M o) sp.toNatClampNeg dp.toNatClampNeg n.toNatClampNeg))) := by simp [Array.getElem?_setIfInBounds, hlt]
      rw [e2]
      congr 1
      rw [vp_cell_i]
      congr 1
      funext j
      show Value.int _ = Value.int (va_up (m_I M) o _ o j)
      rw [up_s]) rfl rfl (rI_I _ _ _) (fun _ _ => rfl) (fun _ _ => rfl)) (fun z hz => by
      rcases List.mem_append.mp hz with h | h
      · exact hl z h
      · obtain ⟨y, -, hy⟩ := List.mem_map.mp h
        rw [← hy]; exact Nat.le_add_right _ _) _ hheap X'
  exact ⟨t, step t a1, b1⟩
set_option maxHeartbeats 1000000 in
theorem sn_acpJ (hG : GG s0 D cy) (hB : BB s0 p s m meth c mi) {i o q : Nat} {n dp sp : Int32} (h19 : mC mi < 19) (hq : i ∈ act (mC mi)) (hs : st.length ≤ 4) (g1 : (m_sh M q).1 = 21) (g2 : (m_sh M o).1 = 21) (h3 : ¬ n < 0) (h2 : ¬ dp < 0) (h1 : ¬ sp < 0) (h4 : sp.toNatClampNeg + n.toNatClampNeg ≤ (m_sh M q).2) (h5 : dp.toNatClampNeg + n.toNatClampNeg ≤ (m_sh M o).2) (hf : 1 ≤ R.frames) (hlc : 100 ≤ R.locals) (hd : decode (mt mi).2.1 pc = .ok (.invokestatic i, 3))
    (kk : WP p l e R s m args below meth c Q D cy B H0 SA mi n0 z0 (pc + 3) (L) (st) (m_rJ M o (va_cpy (m_J M q) (m_J M o) sp.toNatClampNeg dp.toNatClampNeg n.toNatClampNeg))) : WP p l e R s m args below meth c Q D cy B H0 SA mi n0 z0 (pc) (L) (.int n :: .int dp :: .ref o :: .int sp :: .ref q :: st) (M) := by
  intro H locs ls hL hR hl
  have hsum := cat_sum st (cvV B SA)
  have hnw := natw
  have nn : ∀ z : Int32, ¬ z < 0 → z.toInt = (z.toNatClampNeg : Int) := by
    intro z hz
    have hz0 : (0 : Int) ≤ z.toInt := by
      have := Int32.not_lt.mp hz
      simpa using Int32.le_iff_toInt_le.mp this
    show z.toInt = ((z.toInt.toNat : Nat) : Int)
    omega
  have hK := sn_K hG hB
  intro T hT X
  have hc0 : H[B + q]? = some (vp_cell (cy 21) ((m_sh M q).2, .inr (.inl (m_J M q)))) := hR.arr g1 (by omega) (by omega)
  have hc1 : H[B + o]? = some (vp_cell (cy 21) ((m_sh M o).2, .inr (.inl (m_J M o)))) := hR.arr g2 (by omega) (by omega)
  obtain ⟨-, k0, hk0, cm0, hkk0⟩ := (hK.2 1 _ rfl).1 (m_sh M q).2 (fun j => .long (m_J M q j))
  obtain ⟨-, k1, hk1, cm1, hkk1⟩ := (hK.2 1 _ rfl).1 (m_sh M o).2 (fun j => .long (m_J M o j))
  obtain ⟨vm', X', step⟩ := X.arraycopy hB.1 hB.2.2.2.1 (hG.word (acw_all (mC mi) h19 _ hq) rfl hB.2.2.2.2.1 args) (hG.word w_ac1 rfl hB.2.2.2.2.1 args) (hG.word w_ac2 rfl hB.2.2.2.2.1 args) (hG.word w_ac3 rfl hB.2.2.2.2.1 args) (src := B + q) (dst := B + o) (cs := vp_cell (cy 21) ((m_sh M q).2, .inr (.inl (m_J M q)))) (cd := vp_cell (cy 21) ((m_sh M o).2, .inr (.inl (m_J M o)))) (srcPos := sp) (destPos := dp) (n := n) (by rw [hT]; exact hc0) (by rw [hT]; exact hc1)
    (fun _ h => by cases h) (fun _ h => by cases h) (fun h => by cases h) (fun h => by cases h) hk0 hk1 hkk0 hkk1 (by simp [show refKind .long = false from rfl]) h1 h2 h3
    (by rw [nn sp h1, nn n h3]; show ¬ _ > ((arrV (cy 21) (m_sh M q).2 (fun j => .long (m_J M q j))).slots.size : Int); rw [arrV_size]; omega)
    (by rw [nn dp h2, nn n h3]; show ¬ _ > ((arrV (cy 21) (m_sh M o).2 (fun j => .long (m_J M o j))).slots.size : Int); rw [arrV_size]; omega)
    (fun vm₁ _ i hi => by
      have e : (vp_cell (cy 21) ((m_sh M q).2, .inr (.inl (m_J M q)))).slots.getD (sp.toNatClampNeg + i) .null = .long (m_J M q (sp.toNatClampNeg + i)) := by
        show (arrV (cy 21) (m_sh M q).2 (fun j => .long (m_J M q j))).slots.getD _ _ = _
        rw [Array.getD_eq_getD_getElem?, arrV_read _ _ (by omega)]
        rfl
      refine ⟨?_, ?_⟩
      · rw [e]; rfl
      · rw [e]; exact trivial)
    (g := F0 m pc ls ((.int n :: .int dp :: .ref o :: .int sp :: .ref q :: st : List Value).map (cvV B SA))) rfl (by rw [hB.2.2.1]; exact hL.2.1) (rest := st.map (cvV B SA)) rfl (by rw [hB.2.1]; exact hd) hf (by show 2 * 0 + _ + _ ≤ _; omega)
  have e1 : copied (vp_cell (cy 21) ((m_sh M q).2, .inr (.inl (m_J M q)))) (vp_cell (cy 21) ((m_sh M o).2, .inr (.inl (m_J M o)))) sp dp n = vp_cell (cy 21) ((m_sh M o).2, .inr (.inl (va_cpy (m_J M q) (m_J M o) sp.toNatClampNeg dp.toNatClampNeg n.toNatClampNeg))) := va_copied (fun z => .long z) (cy 21) (cy 21) (m_J M q) (m_J M o) h4
  rw [e1] at X' step
  have hlt : B + o < H.size := (Array.getElem?_eq_some_iff.mp hc1).1
  have hheap : ((T.setVm vm').setCell (B + o) (vp_cell (cy 21) ((m_sh M o).2, .inr (.inl (va_cpy (m_J M q) (m_J M o) sp.toNatClampNeg dp.toNatClampNeg n.toNatClampNeg))))).heap = H.setIfInBounds (B + o) (vp_cell (cy 21) ((m_sh M o).2, .inr (.inl (va_cpy (m_J M q) (m_J M o) sp.toNatClampNeg dp.toNatClampNeg n.toNatClampNeg)))) := by rw [← hT]; rfl
  obtain ⟨t, a1, b1⟩ := kk _ _ ls hL (hR.put (a := o) (hR.lt g2 (by omega)) (by simp) (fun z hz => by simp [Array.getElem?_setIfInBounds, Ne.symm hz]) (by
      unfold celA
      rw [show m_sh (m_rJ M o (va_cpy (m_J M q) (m_J M o) sp.toNatClampNeg dp.toNatClampNeg n.toNatClampNeg)) o = m_sh M o from rfl, g2, if_neg (by decide)]
      have e2 : (H.setIfInBounds (B + o) (vp_cell (cy 21) ((m_sh M o).2, .inr (.inl (va_cpy (m_J M q) (m_J M o) sp.toNatClampNeg dp.toNatClampNeg n.toNatClampNeg)))))[B + o]? = some (vp_cell (cy 21) ((m_sh M o).2, .inr (.inl (va_cpy (m_J M q) (m_J M o) sp.toNatClampNeg dp.toNatClampNeg n.toNatClampNeg)))) := by simp [Array.getElem?_setIfInBounds, hlt]
      rw [e2]
      congr 1
      rw [vp_cell_l]
      congr 1
      funext j
      show Value.long _ = Value.long (va_up (m_J M) o _ o j)
      rw [up_s]) rfl rfl (fun _ _ => rfl) (rJ_J _ _ _) (fun _ _ => rfl)) (fun z hz => by
      rcases List.mem_append.mp hz with h | h
      · exact hl z h
      · obtain ⟨y, -, hy⟩ := List.mem_map.mp h
        rw [← hy]; exact Nat.le_add_right _ _) _ hheap X'
  exact ⟨t, step t a1, b1⟩
end CPY
def PcA (s0 : State) (D : va_G) (cy : Nat → ClassId) (B : Nat) (H0 : Heap) (SA : Nat → Nat) (vs : List Value) (M : Mem) : Array Value → State → Prop := fun v U => v = (vs.map (cvV B SA)).toArray ∧ RepA D cy B H0 M U.heap ∧ s0.WarmedH U.vm
def QcA (D : va_G) (cy : Nat → ClassId) (B : Nat) (H0 : Heap) (SA : Nat → Nat) (r : Option Value × Mem) : Array Value → State → Outcome → State → Prop := fun _ _ o t => o = .returned (r.1.map (cvV B SA)) ∧ RepA D cy B H0 r.2 t.heap
def RMd (d c z : Nat) : Room := { frames := d, cells := c, slots := z, locals := 100 * d }
/-- the contract of a method, by the abstract machine's answer -/
def MetA (l : Launch) (s0 : State) (D : va_G) (cy : Nat → ClassId) (B : Nat) (H0 : Heap) (SA : Nat → Nat) (d : Nat) (y : MethodName) (bytes : ByteArray) (mx : Nat) (rt : Option FieldType) (vs : List Value) (M : Mem) (r : Option Value × Mem) : Prop :=
  Met l y [.code y bytes mx rt] (RMd d (m_n r.2 - m_n M) (m_z r.2 - m_z M)) (PcA s0 D cy B H0 SA vs M) (QcA D cy B H0 SA r) (m_n r.2 - m_n M) (m_z r.2 - m_z M) (fun q => B ≤ q)
theorem PcA_blind {s0 : State} {D : va_G} {cy : Nat → ClassId} {B : Nat} {H0 : Heap} {SA : Nat → Nat} {vs : List Value} {M : Mem} : FrameBlind (PcA s0 D cy B H0 SA vs M) := fun a U g mk h => ⟨h.1, h.2.1, h.2.2⟩
section CALL
variable {p : Program} {l : Launch} {e : Env} {R : Room} {s s0 : State} {m : MethodId} {args : Array Value} {below : List Frame} {meth : Method} {c : Code} {Q : State → Prop} {D : va_G} {cy : Nat → ClassId} {B : Nat} {H0 : Heap} {SA : Nat → Nat} {mi n0 z0 : Nat} {pc : Nat} {L st : List Value} {M : Mem}
theorem sn_run {H : Heap} {locs : List Loc} {ls : Array Slot} {st0 rest : List Value} {a : Array Value} {mc ms cells slots : Nat} {r : Option Value × Mem} (hr : va_Run p l e R s m args below meth c H locs cells slots mc ms (F0 m pc ls st0) rest (QcA D cy B H0 SA r a) (fun q => B ≤ q)) (hl : ∀ q ∈ locs, B ≤ q.base)
    (kk : ∀ (H1 : Heap) (locs1 : List Loc), RepA D cy B H0 r.2 H1 → (∀ q ∈ locs1, B ≤ q.base) → W p l e R s m args below meth c H1 locs1 (cells + mc) (slots + ms) Q (F0 m (pc + 3) ls (psh (r.1.map (cvV B SA)) rest))) : W p l e R s m args below meth c H locs cells slots Q (F0 m pc ls st0) := by
  intro T hT X
  obtain ⟨v, st₀, t, T', L, h0, X', hL, e1, e2, ⟨hv, hR⟩, st⟩ := hr T hT X
  have hv : v = r.1.map (cvV B SA) := by cases hv; rfl
  subst hv
  obtain ⟨t2, a1, b1⟩ := kk T'.heap (locs ++ L) (by rw [e1]; exact hR) (fun q hq => by
    rcases List.mem_append.mp hq with h | h
    · exact hl q h
    · exact hL q h) T' rfl X'
  refine ⟨t2, st t2 ?_, b1⟩
  cases hr1 : r.1 with
  | none => rw [hr1] at a1; exact a1
  | some v => rw [hr1] at a1; exact a1
theorem psh_map {B : Nat} {SA : Nat → Nat} {v : Option Value} {st : List Value} : psh (v.map (cvV B SA)) (st.map (cvV B SA)) = (psh v st).map (cvV B SA) := by cases v <;> rfl
/-- what a call needs of the tables and of the room, whatever its kind -/
def CallOK (R : Room) (d : Nat) (y : MethodName) (bytes : ByteArray) (mx : Nat) (rt : Option FieldType) (n : Nat) : Prop := d + 1 ≤ R.frames ∧ 100 * d + 100 ≤ R.locals ∧ mx ≤ 12 ∧ Cond.code y bytes mx rt ∈ lw_tbl ∧ Cond.initialized y.cls ∈ lw_tbl ∧ (y.cls ≠ "java/lang/invoke/MethodHandle" ∧ y.cls ≠ "java/lang/invoke/VarHandle") ∧ (parseMethodDescriptor y.desc).map (fun d => d.parameters.length) = some n
theorem len_of {y : MethodName} {n : Nat} (h : (parseMethodDescriptor y.desc).map (fun d => d.parameters.length) = some n) : ∀ sig, parseMethodDescriptor y.desc = some sig → n = sig.parameters.length := by
  intro sig hs
  rw [hs] at h
  exact (Option.some.inj h).symm
theorem sn_callV (hG : GG s0 D cy) (hB : BB s0 p s m meth c mi) {i o d mx n ci : Nat} {y : MethodName} {bytes : ByteArray} {rt : Option FieldType} {As : List Value} {r : Option Value × Mem} (hM : MetA l s0 D cy B H0 SA d y bytes mx rt (.ref o :: As) M r) (hO : CallOK R d y bytes mx rt n) (hn : As.length = n) (hci : ci < 13) (hcl : (clO ci).1 = y.cls) (hsh : (m_sh M o).1 = ci) (hlk : Cond.methodLink (clsN (mC mi)) i y ∈ lw_tbl) (him : Cond.instanceMethod y ∈ lw_tbl) (hse : Cond.selects y.cls y y ∈ lw_tbl) {r1 : Nat} (hs : st.length ≤ 4 ∨ (r1 < 1000 ∧ cS st ≤ 8)) (hn0 : n0 ≤ m_n M) (hz0 : z0 ≤ m_z M) (hm1 : m_n M ≤ m_n r.2) (hm2 : m_z M ≤ m_z r.2) (hc1 : m_n r.2 - n0 ≤ R.cells) (hc2 : m_z r.2 - z0 ≤ R.slots) (hd : decode (mt mi).2.1 pc = .ok (.invokevirtual i, 3))
    (kk : WP p l e R s m args below meth c Q D cy B H0 SA mi n0 z0 (pc + 3) (L) (psh r.1 st) (r.2)) : WP p l e R s m args below meth c Q D cy B H0 SA mi n0 z0 (pc) (L) (As.reverse ++ .ref o :: st) (M) := by
  intro H locs ls hL hR hl
  obtain ⟨o1, o2, o3, o4, o5, o6, o7⟩ := hO
  have hw := hB.2.2.2.2.1
  have hcd : (Cond.code y bytes mx rt).before args s = true := hG.word o4 rfl hw args
  have hin : (Cond.initialized y.cls).before args s = true := hG.word o5 rfl hw args
  have hws : ∀ w ∈ [Cond.code y bytes mx rt], ∀ (a' : Array Value) (U : State), s.WarmedH U.vm → w.before a' U = true := fun w h a' U hU => by rw [List.mem_singleton.mp h]; exact hG.word o4 rfl (State.WarmedH.trans hw hU) a'
  have hsum := cat_ok B SA hs
  have k2 := kk
  have c1 : m_n r.2 - n0 = m_n M - n0 + (m_n r.2 - m_n M) := by omega
  have c2 : m_z r.2 - z0 = m_z M - z0 + (m_z r.2 - m_z M) := by omega
  have hfx : CallFix p m c (mt mi).2.1 (ML mi) s args [] (clsN (mC mi)) := ⟨hB.1, hB.2.1, hB.2.2.1, hB.2.2.2.1, fun w h => absurd h List.not_mem_nil⟩
  obtain ⟨cellB, b1, b2, b3, -⟩ := hR.obj hsh hci
  have b4 : s.vm.findClass y.cls = some cellB.cls := by rw [b2, ← hcl]; exact ((sn_K hG hB).1 ci _ (clO_get ci hci)).2.1
  refine sn_run (r := r) (va_runV (C := y.cls) (As := As.map (cvV B SA)) (rest := st.map (cvV B SA)) hfx hM ⟨⟨rfl, rfl, o1, by show 8 + (mx + 11) + 100 * d ≤ R.locals; omega, hws, List.mem_singleton.mpr rfl, hcd, hin, o6, len_of o7, hG.word hlk rfl hw args⟩, hG.word him rfl hw args, hG.word hse rfl hw args⟩ ⟨PcA_blind, ⟨cellB, b1, by rw [b3]; rfl, b4⟩, fun U hU hWU => ⟨by rfl, by rw [hU]; exact hR, State.WarmedH.trans hw hWU⟩⟩ rfl (by simpa using hn) hL.2.1 (by simp [List.map_append, List.map_reverse, cvV]) (lv_room (by omega)) hd ⟨by omega, by omega⟩) hl (fun H1 locs1 hR1 hl1 => ?_)
  have k3 := kk H1 locs1 ls hL hR1 hl1
  rw [c1, c2] at k3
  rw [psh_map]
  exact k3
theorem sn_callVN (hG : GG s0 D cy) (hB : BB s0 p s m meth c mi) {i o d mx n ci : Nat} {y : MethodName} {bytes : ByteArray} {rt : Option FieldType} {As : List Value} {r : Option Value × Mem} (hM : MetA l s0 D cy B H0 SA d y bytes mx rt (.ref o :: As) M r) (hO : CallOK R d y bytes mx rt n) (hn : As.length = n) (hci : ci < 13) (hcl : (clO ci).1 = y.cls) (hsh : (m_sh M o).1 = ci) (hlk : Cond.methodLinkNest (clsN (mC mi)) i y nHost ∈ lw_tbl) (him : Cond.instanceMethod y ∈ lw_tbl) (hse : Cond.selects y.cls y y ∈ lw_tbl) {r1 : Nat} (hs : st.length ≤ 4 ∨ (r1 < 1000 ∧ cS st ≤ 8)) (hn0 : n0 ≤ m_n M) (hz0 : z0 ≤ m_z M) (hm1 : m_n M ≤ m_n r.2) (hm2 : m_z M ≤ m_z r.2) (hc1 : m_n r.2 - n0 ≤ R.cells) (hc2 : m_z r.2 - z0 ≤ R.slots) (hd : decode (mt mi).2.1 pc = .ok (.invokevirtual i, 3))
    (kk : WP p l e R s m args below meth c Q D cy B H0 SA mi n0 z0 (pc + 3) (L) (psh r.1 st) (r.2)) : WP p l e R s m args below meth c Q D cy B H0 SA mi n0 z0 (pc) (L) (As.reverse ++ .ref o :: st) (M) := by
  intro H locs ls hL hR hl
  obtain ⟨o1, o2, o3, o4, o5, o6, o7⟩ := hO
  have hw := hB.2.2.2.2.1
  have hcd : (Cond.code y bytes mx rt).before args s = true := hG.word o4 rfl hw args
  have hin : (Cond.initialized y.cls).before args s = true := hG.word o5 rfl hw args
  have hws : ∀ w ∈ [Cond.code y bytes mx rt], ∀ (a' : Array Value) (U : State), s.WarmedH U.vm → w.before a' U = true := fun w h a' U hU => by rw [List.mem_singleton.mp h]; exact hG.word o4 rfl (State.WarmedH.trans hw hU) a'
  have hsum := cat_ok B SA hs
  have k2 := kk
  have c1 : m_n r.2 - n0 = m_n M - n0 + (m_n r.2 - m_n M) := by omega
  have c2 : m_z r.2 - z0 = m_z M - z0 + (m_z r.2 - m_z M) := by omega
  have hfx : CallFix p m c (mt mi).2.1 (ML mi) s args [] (clsN (mC mi)) := ⟨hB.1, hB.2.1, hB.2.2.1, hB.2.2.2.1, fun w h => absurd h List.not_mem_nil⟩
  obtain ⟨cellB, b1, b2, b3, -⟩ := hR.obj hsh hci
  have b4 : s.vm.findClass y.cls = some cellB.cls := by rw [b2, ← hcl]; exact ((sn_K hG hB).1 ci _ (clO_get ci hci)).2.1
  refine sn_run (r := r) (va_runVN (C := y.cls) (As := As.map (cvV B SA)) (rest := st.map (cvV B SA)) hfx hM ⟨⟨⟨rfl, rfl, o1, by show 8 + (mx + 11) + 100 * d ≤ R.locals; omega, hws, List.mem_singleton.mpr rfl⟩, hcd, hin, o6, len_of o7, hG.word hlk rfl hw args⟩, hG.word him rfl hw args, hG.word hse rfl hw args⟩ ⟨PcA_blind, ⟨cellB, b1, by rw [b3]; rfl, b4⟩, fun U hU hWU => ⟨by rfl, by rw [hU]; exact hR, State.WarmedH.trans hw hWU⟩⟩ rfl (by simpa using hn) hL.2.1 (by simp [List.map_append, List.map_reverse, cvV]) (lv_room (by omega)) hd ⟨by omega, by omega⟩) hl (fun H1 locs1 hR1 hl1 => ?_)
  have k3 := kk H1 locs1 ls hL hR1 hl1
  rw [c1, c2] at k3
  rw [psh_map]
  exact k3
theorem sn_callS (hG : GG s0 D cy) (hB : BB s0 p s m meth c mi) {i o d mx n : Nat} {y : MethodName} {bytes : ByteArray} {rt : Option FieldType} {As : List Value} {r : Option Value × Mem} (hM : MetA l s0 D cy B H0 SA d y bytes mx rt As M r) (hO : CallOK R d y bytes mx rt n) (hn : As.length = n) (hlk : Cond.methodLink (clsN (mC mi)) i y ∈ lw_tbl) (hsa : Cond.static y ∈ lw_tbl) (hs : st.length ≤ 4) (hn0 : n0 ≤ m_n M) (hz0 : z0 ≤ m_z M) (hm1 : m_n M ≤ m_n r.2) (hm2 : m_z M ≤ m_z r.2) (hc1 : m_n r.2 - n0 ≤ R.cells) (hc2 : m_z r.2 - z0 ≤ R.slots) (hd : decode (mt mi).2.1 pc = .ok (.invokestatic i, 3))
    (kk : WP p l e R s m args below meth c Q D cy B H0 SA mi n0 z0 (pc + 3) (L) (psh r.1 st) (r.2)) : WP p l e R s m args below meth c Q D cy B H0 SA mi n0 z0 (pc) (L) (As.reverse ++ st) (M) := by
  intro H locs ls hL hR hl
  obtain ⟨o1, o2, o3, o4, o5, o6, o7⟩ := hO
  have hw := hB.2.2.2.2.1
  have hcd : (Cond.code y bytes mx rt).before args s = true := hG.word o4 rfl hw args
  have hin : (Cond.initialized y.cls).before args s = true := hG.word o5 rfl hw args
  have hws : ∀ w ∈ [Cond.code y bytes mx rt], ∀ (a' : Array Value) (U : State), s.WarmedH U.vm → w.before a' U = true := fun w h a' U hU => by rw [List.mem_singleton.mp h]; exact hG.word o4 rfl (State.WarmedH.trans hw hU) a'
  have hsum := cat_sum st (cvV B SA)
  have k2 := kk
  have c1 : m_n r.2 - n0 = m_n M - n0 + (m_n r.2 - m_n M) := by omega
  have c2 : m_z r.2 - z0 = m_z M - z0 + (m_z r.2 - m_z M) := by omega
  have hfx : CallFix p m c (mt mi).2.1 (ML mi) s args [] (clsN (mC mi)) := ⟨hB.1, hB.2.1, hB.2.2.1, hB.2.2.2.1, fun w h => absurd h List.not_mem_nil⟩
  refine sn_run (r := r) (va_runS (As := As.map (cvV B SA)) (rest := st.map (cvV B SA)) hfx hM ⟨⟨rfl, rfl, o1, by show 8 + (mx + 11) + 100 * d ≤ R.locals; omega, hws, List.mem_singleton.mpr rfl, hcd, hin, o6, len_of o7, hG.word hlk rfl hw args⟩, hG.word hsa rfl hw args⟩ ⟨PcA_blind, fun U hU hWU => ⟨by rfl, by rw [hU]; exact hR, State.WarmedH.trans hw hWU⟩⟩ rfl (by simpa using hn) hL.2.1 (by simp [List.map_append, List.map_reverse]) (lv_room (by omega)) hd ⟨by omega, by omega⟩) hl (fun H1 locs1 hR1 hl1 => ?_)
  have k3 := kk H1 locs1 ls hL hR1 hl1
  rw [c1, c2] at k3
  rw [psh_map]
  exact k3
theorem sn_callSN (hG : GG s0 D cy) (hB : BB s0 p s m meth c mi) {i o d mx n : Nat} {y : MethodName} {bytes : ByteArray} {rt : Option FieldType} {As : List Value} {r : Option Value × Mem} (hM : MetA l s0 D cy B H0 SA d y bytes mx rt As M r) (hO : CallOK R d y bytes mx rt n) (hn : As.length = n) (hlk : Cond.methodLinkNest (clsN (mC mi)) i y nHost ∈ lw_tbl) (hsa : Cond.static y ∈ lw_tbl) (hs : st.length ≤ 4) (hn0 : n0 ≤ m_n M) (hz0 : z0 ≤ m_z M) (hm1 : m_n M ≤ m_n r.2) (hm2 : m_z M ≤ m_z r.2) (hc1 : m_n r.2 - n0 ≤ R.cells) (hc2 : m_z r.2 - z0 ≤ R.slots) (hd : decode (mt mi).2.1 pc = .ok (.invokestatic i, 3))
    (kk : WP p l e R s m args below meth c Q D cy B H0 SA mi n0 z0 (pc + 3) (L) (psh r.1 st) (r.2)) : WP p l e R s m args below meth c Q D cy B H0 SA mi n0 z0 (pc) (L) (As.reverse ++ st) (M) := by
  intro H locs ls hL hR hl
  obtain ⟨o1, o2, o3, o4, o5, o6, o7⟩ := hO
  have hw := hB.2.2.2.2.1
  have hcd : (Cond.code y bytes mx rt).before args s = true := hG.word o4 rfl hw args
  have hin : (Cond.initialized y.cls).before args s = true := hG.word o5 rfl hw args
  have hws : ∀ w ∈ [Cond.code y bytes mx rt], ∀ (a' : Array Value) (U : State), s.WarmedH U.vm → w.before a' U = true := fun w h a' U hU => by rw [List.mem_singleton.mp h]; exact hG.word o4 rfl (State.WarmedH.trans hw hU) a'
  have hsum := cat_sum st (cvV B SA)
  have k2 := kk
  have c1 : m_n r.2 - n0 = m_n M - n0 + (m_n r.2 - m_n M) := by omega
  have c2 : m_z r.2 - z0 = m_z M - z0 + (m_z r.2 - m_z M) := by omega
  have hfx : CallFix p m c (mt mi).2.1 (ML mi) s args [] (clsN (mC mi)) := ⟨hB.1, hB.2.1, hB.2.2.1, hB.2.2.2.1, fun w h => absurd h List.not_mem_nil⟩
  refine sn_run (r := r) (va_runSN (As := As.map (cvV B SA)) (rest := st.map (cvV B SA)) hfx hM ⟨⟨⟨rfl, rfl, o1, by show 8 + (mx + 11) + 100 * d ≤ R.locals; omega, hws, List.mem_singleton.mpr rfl⟩, hcd, hin, o6, len_of o7, hG.word hlk rfl hw args⟩, hG.word hsa rfl hw args, trivial⟩ ⟨PcA_blind, fun U hU hWU => ⟨by rfl, by rw [hU]; exact hR, State.WarmedH.trans hw hWU⟩⟩ rfl (by simpa using hn) hL.2.1 (by simp [List.map_append, List.map_reverse]) (lv_room (by omega)) hd ⟨by omega, by omega⟩) hl (fun H1 locs1 hR1 hl1 => ?_)
  have k3 := kk H1 locs1 ls hL hR1 hl1
  rw [c1, c2] at k3
  rw [psh_map]
  exact k3
theorem sn_callI (hG : GG s0 D cy) (hB : BB s0 p s m meth c mi) {i o d mx n : Nat} {y : MethodName} {bytes : ByteArray} {rt : Option FieldType} {As : List Value} {r : Option Value × Mem} (hM : MetA l s0 D cy B H0 SA d y bytes mx rt (.ref o :: As) M r) (hO : CallOK R d y bytes mx rt n) (hn : As.length = n) (hrt : rt = none) (hy1 : y.name = "<init>") (hlk : Cond.methodLink (clsN (mC mi)) i y ∈ lw_tbl) (him : Cond.instanceMethod y ∈ lw_tbl) (hs : st.length ≤ 4) (hn0 : n0 ≤ m_n M) (hz0 : z0 ≤ m_z M) (hm1 : m_n M ≤ m_n r.2) (hm2 : m_z M ≤ m_z r.2) (hc1 : m_n r.2 - n0 ≤ R.cells) (hc2 : m_z r.2 - z0 ≤ R.slots) (hd : decode (mt mi).2.1 pc = .ok (.invokespecial i, 3))
    (kk : WP p l e R s m args below meth c Q D cy B H0 SA mi n0 z0 (pc + 3) (L) (psh r.1 st) (r.2)) : WP p l e R s m args below meth c Q D cy B H0 SA mi n0 z0 (pc) (L) (As.reverse ++ .ref o :: st) (M) := by
  intro H locs ls hL hR hl
  obtain ⟨o1, o2, o3, o4, o5, o6, o7⟩ := hO
  have hw := hB.2.2.2.2.1
  have hcd : (Cond.code y bytes mx rt).before args s = true := hG.word o4 rfl hw args
  have hin : (Cond.initialized y.cls).before args s = true := hG.word o5 rfl hw args
  have hws : ∀ w ∈ [Cond.code y bytes mx rt], ∀ (a' : Array Value) (U : State), s.WarmedH U.vm → w.before a' U = true := fun w h a' U hU => by rw [List.mem_singleton.mp h]; exact hG.word o4 rfl (State.WarmedH.trans hw hU) a'
  have hsum := cat_sum st (cvV B SA)
  have k2 := kk
  have c1 : m_n r.2 - n0 = m_n M - n0 + (m_n r.2 - m_n M) := by omega
  have c2 : m_z r.2 - z0 = m_z M - z0 + (m_z r.2 - m_z M) := by omega
  have hfx : CallFix p m c (mt mi).2.1 (ML mi) s args [] (clsN (mC mi)) := ⟨hB.1, hB.2.1, hB.2.2.1, hB.2.2.2.1, fun w h => absurd h List.not_mem_nil⟩
  refine sn_run (r := r) (by subst hrt; exact va_runI (As := As.map (cvV B SA)) (rest := st.map (cvV B SA)) hfx hM ⟨⟨rfl, rfl, o1, by show 8 + (mx + 11) + 100 * d ≤ R.locals; omega, hws, List.mem_singleton.mpr rfl, hcd, hin, o6, len_of o7, hG.word hlk rfl hw args⟩, hy1, hG.word him rfl hw args⟩ ⟨PcA_blind, fun U hU hWU => ⟨by rfl, by rw [hU]; exact hR, State.WarmedH.trans hw hWU⟩⟩ rfl (by simpa using hn) hL.2.1 (by simp [List.map_append, List.map_reverse, cvV]) (lv_room (by omega)) hd ⟨by omega, by omega⟩) hl (fun H1 locs1 hR1 hl1 => ?_)
  have k3 := kk H1 locs1 ls hL hR1 hl1
  rw [c1, c2] at k3
  rw [psh_map]
  exact k3
theorem sn_callIN (hG : GG s0 D cy) (hB : BB s0 p s m meth c mi) {i o d mx n : Nat} {y : MethodName} {bytes : ByteArray} {rt : Option FieldType} {As : List Value} {r : Option Value × Mem} (hM : MetA l s0 D cy B H0 SA d y bytes mx rt (.ref o :: As) M r) (hO : CallOK R d y bytes mx rt n) (hn : As.length = n) (hrt : rt = none) (hy1 : y.name = "<init>") (hlk : Cond.methodLinkNest (clsN (mC mi)) i y nHost ∈ lw_tbl) (him : Cond.instanceMethod y ∈ lw_tbl) (hs : st.length ≤ 4) (hn0 : n0 ≤ m_n M) (hz0 : z0 ≤ m_z M) (hm1 : m_n M ≤ m_n r.2) (hm2 : m_z M ≤ m_z r.2) (hc1 : m_n r.2 - n0 ≤ R.cells) (hc2 : m_z r.2 - z0 ≤ R.slots) (hd : decode (mt mi).2.1 pc = .ok (.invokespecial i, 3))
    (kk : WP p l e R s m args below meth c Q D cy B H0 SA mi n0 z0 (pc + 3) (L) (psh r.1 st) (r.2)) : WP p l e R s m args below meth c Q D cy B H0 SA mi n0 z0 (pc) (L) (As.reverse ++ .ref o :: st) (M) := by
  intro H locs ls hL hR hl
  obtain ⟨o1, o2, o3, o4, o5, o6, o7⟩ := hO
  have hw := hB.2.2.2.2.1
  have hcd : (Cond.code y bytes mx rt).before args s = true := hG.word o4 rfl hw args
  have hin : (Cond.initialized y.cls).before args s = true := hG.word o5 rfl hw args
  have hws : ∀ w ∈ [Cond.code y bytes mx rt], ∀ (a' : Array Value) (U : State), s.WarmedH U.vm → w.before a' U = true := fun w h a' U hU => by rw [List.mem_singleton.mp h]; exact hG.word o4 rfl (State.WarmedH.trans hw hU) a'
  have hsum := cat_sum st (cvV B SA)
  have k2 := kk
  have c1 : m_n r.2 - n0 = m_n M - n0 + (m_n r.2 - m_n M) := by omega
  have c2 : m_z r.2 - z0 = m_z M - z0 + (m_z r.2 - m_z M) := by omega
  have hfx : CallFix p m c (mt mi).2.1 (ML mi) s args [] (clsN (mC mi)) := ⟨hB.1, hB.2.1, hB.2.2.1, hB.2.2.2.1, fun w h => absurd h List.not_mem_nil⟩
  refine sn_run (r := r) (by subst hrt; exact va_runIN (As := As.map (cvV B SA)) (rest := st.map (cvV B SA)) hfx hM ⟨⟨⟨rfl, rfl, o1, by show 8 + (mx + 11) + 100 * d ≤ R.locals; omega, hws, List.mem_singleton.mpr rfl⟩, hcd, hin, o6, len_of o7, hG.word hlk rfl hw args⟩, hy1, hG.word him rfl hw args⟩ ⟨PcA_blind, fun U hU hWU => ⟨by rfl, by rw [hU]; exact hR, State.WarmedH.trans hw hWU⟩⟩ rfl (by simpa using hn) hL.2.1 (by simp [List.map_append, List.map_reverse, cvV]) (lv_room (by omega)) hd ⟨by omega, by omega⟩) hl (fun H1 locs1 hR1 hl1 => ?_)
  have k3 := kk H1 locs1 ls hL hR1 hl1
  rw [c1, c2] at k3
  rw [psh_map]
  exact k3
end CALL
