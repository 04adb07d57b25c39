/-! ===== contracts of the strings' methods ===== -/
def lenS : List Nat := strL.map List.length
def bytS : List (List Int32) := strL.map (fun l => l.map nI)
def SPc (s0 : State) (vs : List Value) : Array Value → State → Prop := fun v U => v = vs.toArray ∧ s0.WarmedH U.vm ∧ s0.heap.size ≤ U.heap.size ∧ ∀ q, q < s0.heap.size → U.heap[q]? = s0.heap[q]?
def SQc (res : Option Value) : Array Value → State → Outcome → State → Prop := fun _ st o t => o = .returned res ∧ t.heap = st.heap
def SP (l : Launch) (s0 : State) (d : Nat) (y : MethodName) (bytes : ByteArray) (mx : Nat) (rt : Option FieldType) (vs : List Value) (res : Option Value) : Prop := Met l y [.code y bytes mx rt] (RMd d 0 0) (SPc s0 vs) (SQc res) 0 0 (fun q => s0.heap.size ≤ q)
theorem SPc_blind {s0 : State} {vs : List Value} : FrameBlind (SPc s0 vs) := fun a U g mk h => ⟨h.1, h.2.1, h.2.2.1, h.2.2.2⟩
def AA (s0 : State) : Nat → Prop := fun q => s0.heap.size ≤ q
/-- the strings at the start of the law -/
def ST (s0 : State) (adK adV : Nat → Nat) : Prop := vk_S 22 lenS bytS adK adV (AA s0) s0 s0.heap ∧ va_Z "java/lang/String" "COMPACT_STRINGS" "Z" (.int 1) (AA s0) s0 s0.heap ∧ va_Zq "jdk/internal/util/Preconditions" "SIOOBE_FORMATTER" "Ljava/util/function/BiFunction;" (AA s0) s0 s0.heap
def BS (s0 : State) (p : Program) (s : State) (m : MethodId) (meth : Method) (c : Code) (y : MethodName) (bytes : ByteArray) (mx : Nat) (rt : Option FieldType) : Prop := p.tables.exec = Jvm.exec ∧ c.code = bytes ∧ c.maxLocals = mx ∧ s.vm.findClass y.cls = some m.cls ∧ meth.sig.returnType = rt ∧ meth.locks = false ∧ s0.WarmedH s.vm ∧ s0.heap.size ≤ s.heap.size ∧ ∀ q, q < s0.heap.size → s.heap[q]? = s0.heap[q]?
theorem SP.of {l : Launch} {s0 : State} {d : Nat} {y : MethodName} {bytes : ByteArray} {mx : Nat} {rt : Option FieldType} {vs : List Value} {res : Option Value} (hy : plainFor y = true) (hlen : (lg_sl vs).length ≤ mx)
    (body : ∀ (p : Program) (e : Env) (s : State) (m : MethodId) (below : List Frame) (meth : Method) (c : Code) (ls : Array Slot), BS s0 p s m meth c y bytes mx rt → lv_has ls mx (lv_args 0 vs) → W p l e (RMd d 0 0) s m vs.toArray below meth c s.heap [] 0 0 (MQ below (SQc res) vs.toArray s 0 0 (fun q => s0.heap.size ≤ q)) (F0 m 0 ls [])) : SP l s0 d y bytes mx rt vs res := by
  refine va_MetF (cc := bytes) (maxL := mx) (ret := rt) hy rfl ?_
  intro p e s m args below meth c s₁ Bd hml hv
  obtain ⟨ha, hW, hz, hk⟩ := hv
  subst ha
  rw [lg_entry_eq]
  exact body p e s m below meth c _ ⟨Bd.exec, Bd.bytes, hml, findClass_of_methodNamed Bd.named, Bd.returns, Bd.notSynchronized, hW, hz, hk⟩ (lv_entry vs hlen)
section STR
variable {p : Program} {l : Launch} {e : Env} {R : Room} {s s0 : State} {m : MethodId} {args : Array Value} {below : List Frame} {meth : Method} {c : Code} {Q : State → Prop} {D : va_G} {cy : Nat → ClassId} {y : MethodName} {bytes : ByteArray} {mx : Nat} {rt : Option FieldType} {adK adV : Nat → Nat} {H : Heap} {locs : List Loc} {cells slots : Nat} {ls : Array Slot} {rest : List Value} {pc : Nat}
theorem BS.wS (hB : BS s0 p s m meth c y bytes mx rt) (hT : ST s0 adK adV) : vk_S 22 lenS bytS adK adV (AA s0) s s.heap := (hT.1.moved hB.2.2.2.2.2.2.1.alike).kept (fun a h1 _ => hB.2.2.2.2.2.2.2.2 a h1)
theorem BS.wZ (hB : BS s0 p s m meth c y bytes mx rt) (hT : ST s0 adK adV) : va_Z "java/lang/String" "COMPACT_STRINGS" "Z" (.int 1) (AA s0) s s.heap := (hT.2.1.moved hB.2.2.2.2.2.2.1.alike).kept (fun a h1 _ => hB.2.2.2.2.2.2.2.2 a h1)
theorem BS.wQ (hB : BS s0 p s m meth c y bytes mx rt) (hT : ST s0 adK adV) : va_Zq "jdk/internal/util/Preconditions" "SIOOBE_FORMATTER" "Ljava/util/function/BiFunction;" (AA s0) s s.heap := (hT.2.2.moved hB.2.2.2.2.2.2.1.alike).kept (fun a h1 _ => hB.2.2.2.2.2.2.2.2 a h1)
theorem BS.wd (hB : BS s0 p s m meth c y bytes mx rt) (hG : GG s0 D cy) {w : Cond} (hw : w ∈ lw_tbl) (hg : gw w = true) : w.before args s = true := hG.word hw hg hB.2.2.2.2.2.2.1 args
theorem va_S0 : va_S (AA s0) s.heap s.heap [] := va_S.rf
/-- behind a call that leaves the heap as it was -/
theorem sp_run {mc0 : Nat} {st0 : List Value} {a : Array Value} {res : Option Value} {F : Addr → Prop} (hr : va_Run p l e R s m args below meth c H locs cells slots 0 0 (F0 m pc ls st0) rest (SQc res a) F)
    (kk : ∀ L : List Loc, (∀ q ∈ L, F q.base) → W p l e R s m args below meth c H (locs ++ L) cells slots Q (F0 m (pc + 3) ls (res.toList ++ rest))) : W p l e R s m args below meth c H locs cells slots Q (F0 m pc ls st0) := by
  intro T hT X
  obtain ⟨v, st₀, t, T', L, h0, X', hL, e1, e2, ⟨hv, hH⟩, st⟩ := hr T hT X
  have hv : v = res := by cases hv; rfl
  subst hv
  obtain ⟨t2, a1, b1⟩ := kk L hL T' (by rw [e1, hH, h0]) X'
  exact ⟨t2, st t2 a1, b1⟩
end STR
section STR2
variable {l : Launch} {s0 : State} {D : va_G} {cy : Nat → ClassId} {adK adV : Nat → Nat}
theorem sp_coder (hG : GG s0 D cy) (hT : ST s0 adK adV) {i : Nat} (hi : i < 22) : SP l s0 0 yJ0_coder_7d493 cJ0_coder_7d493 1 (some .byte) [.ref (adK i)] (some (.int 0)) := by
  refine SP.of (by decide +kernel) (Nat.le_of_ble_eq_true rfl) ?_
  intro p e s m below meth c ls hB hl
  have hE := hB.wS hT
  refine va_gets hB.1 hB.2.1 (hB.wZ hT) va_S0 hB.2.2.2.1 (hB.wd hG sf_J0_38 rfl) (fun _ h => h) dJ0_coder_7d493_0 ?_
  refine lv_if_eq hB.1 hB.2.1 dJ0_coder_7d493_3 (tgt := 13) (by decide) (fun h => absurd h (by decide)) (fun _ => ?_)
  refine lv_aload_n hB.1 hB.2.1 dJ0_coder_7d493_6 rfl (lv_at hl 0 rfl) ?_
  refine vk_getf hB.1 hB.2.1 (hE.1 i hi).2.1 va_S0 hB.2.2.2.1 (hB.wd hG sf_J0_15 rfl) (fun _ h => h) dJ0_coder_7d493_7 ?_
  refine lv_goto hB.1 hB.2.1 dJ0_coder_7d493_10 (tgt := 14) (by decide) ?_
  exact W.zret (ty := .byte) (v := 0) hB.1 hB.2.1 hB.2.2.2.2.1 rfl (fun t ht _ => ⟨rfl, ht⟩) (fun q h => by cases h) dJ0_coder_7d493_14 (hlocks := hB.2.2.2.2.2.1)
theorem sp_isLatin1 (hG : GG s0 D cy) (hT : ST s0 adK adV) {i : Nat} (hi : i < 22) : SP l s0 0 yJ0_isLatin1_aae02 cJ0_isLatin1_aae02 1 (some .boolean) [.ref (adK i)] (some (.int 1)) := by
  refine SP.of (by decide +kernel) (Nat.le_of_ble_eq_true rfl) ?_
  intro p e s m below meth c ls hB hl
  have hE := hB.wS hT
  refine va_gets hB.1 hB.2.1 (hB.wZ hT) va_S0 hB.2.2.2.1 (hB.wd hG sf_J0_38 rfl) (fun _ h => h) dJ0_isLatin1_aae02_0 ?_
  refine lv_if_eq hB.1 hB.2.1 dJ0_isLatin1_aae02_3 (tgt := 17) (by decide) (fun h => absurd h (by decide)) (fun _ => ?_)
  refine lv_aload_n hB.1 hB.2.1 dJ0_isLatin1_aae02_6 rfl (lv_at hl 0 rfl) ?_
  refine vk_getf hB.1 hB.2.1 (hE.1 i hi).2.1 va_S0 hB.2.2.2.1 (hB.wd hG sf_J0_15 rfl) (fun _ h => h) dJ0_isLatin1_aae02_7 ?_
  refine lv_if_ne hB.1 hB.2.1 dJ0_isLatin1_aae02_10 (tgt := 17) (by decide) (fun h => absurd rfl h) (fun _ => ?_)
  refine lv_iconst (v := 1) hB.1 hB.2.1 dJ0_isLatin1_aae02_13 (by decide) ?_
  refine lv_goto hB.1 hB.2.1 dJ0_isLatin1_aae02_14 (tgt := 18) (by decide) ?_
  exact W.zret (ty := .boolean) (v := 1) hB.1 hB.2.1 hB.2.2.2.2.1 rfl (fun t ht _ => ⟨rfl, ht⟩) (fun q h => by cases h) dJ0_isLatin1_aae02_18 (hlocks := hB.2.2.2.2.2.1)
/-- a virtual call on a string constant -/
theorem sp_V {p : Program} {e : Env} {R : Room} {s : State} {m : MethodId} {args : Array Value} {below : List Frame} {meth : Method} {c : Code} {Q : State → Prop} {y y' : MethodName} {bytes bytes' : ByteArray} {mx mx' d n i index : Nat} {rt rt' : Option FieldType} {As rest : List Value} {res : Option Value} {locs : List Loc} {ls : Array Slot} {pc : Nat} (hG : GG s0 D cy) (hT : ST s0 adK adV) (hB : BS s0 p s m meth c y bytes mx rt) (hi : i < 22) (hM : SP l s0 d y' bytes' mx' rt' (.ref (adK i) :: As) res) (hcl : y'.cls = "java/lang/String") (hlk : Cond.methodLink y.cls index y' ∈ lw_tbl) (hcd : Cond.code y' bytes' mx' rt' ∈ lw_tbl) (hin : Cond.initialized y'.cls ∈ lw_tbl) (him : Cond.instanceMethod y' ∈ lw_tbl) (hse : Cond.selects y'.cls y' y' ∈ lw_tbl)
    (hp : (parseMethodDescriptor y'.desc).map (fun d => d.parameters.length) = some n) (hn : As.length = n) (hsz : ls.size = mx) (hrest : (rest.map fun v => v.category).sum ≤ 8) (hr1 : d + 1 ≤ R.frames) (hr2 : 100 * d + 100 ≤ R.locals) (hmx : mx' ≤ 12) (hd : decode bytes pc = .ok (.invokevirtual index, 3))
    (kk : ∀ L : List Loc, (∀ q ∈ L, s0.heap.size ≤ q.base) → W p l e R s m args below meth c s.heap (locs ++ L) 0 0 Q (F0 m (pc + 3) ls (res.toList ++ rest))) : W p l e R s m args below meth c s.heap locs 0 0 Q (F0 m pc ls (As.reverse ++ .ref (adK i) :: rest)) := by
  have hw := hB.2.2.2.2.2.2.1
  obtain ⟨cellB, b1, b2, b3⟩ := vk_recv (hB.wS hT) hi (va_S0 (s := s))
  refine sp_run (mc0 := 0) (F := fun q => s0.heap.size ≤ q) (va_runV (C := y'.cls) (As := As) (rest := rest) (nL := mx) ⟨hB.1, hB.2.1, hB.2.2.1, hB.2.2.2.1, fun w h => absurd h List.not_mem_nil⟩ hM ⟨⟨rfl, rfl, hr1, by show 8 + (mx' + 11) + 100 * d ≤ R.locals; omega, fun w h a' U hU => by rw [List.mem_singleton.mp h]; exact hG.word hcd rfl (State.WarmedH.trans hw hU) a', List.mem_singleton.mpr rfl, hB.wd hG hcd rfl, hB.wd hG hin rfl, by rw [hcl]; exact ⟨by decide, by decide⟩, len_of hp, hB.wd hG hlk rfl⟩, hB.wd hG him rfl, hB.wd hG hse rfl⟩ ⟨SPc_blind, ⟨cellB, b1, b2, by rw [hcl]; exact b3⟩, fun U hU hWU => ⟨rfl, State.WarmedH.trans hw hWU, by rw [hU]; exact hB.2.2.2.2.2.2.2.1, fun q hq => by rw [hU]; exact hB.2.2.2.2.2.2.2.2 q hq⟩⟩ rfl hn hsz rfl (lv_room hrest) hd ⟨Nat.zero_le _, Nat.zero_le _⟩) kk
theorem sp_S {p : Program} {e : Env} {R : Room} {s : State} {m : MethodId} {args : Array Value} {below : List Frame} {meth : Method} {c : Code} {Q : State → Prop} {y y' : MethodName} {bytes bytes' : ByteArray} {mx mx' d n index : Nat} {rt rt' : Option FieldType} {As rest : List Value} {res : Option Value} {locs : List Loc} {ls : Array Slot} {pc : Nat} (hG : GG s0 D cy) (hB : BS s0 p s m meth c y bytes mx rt) (hM : SP l s0 d y' bytes' mx' rt' As res) (hcl : y'.cls ≠ "java/lang/invoke/MethodHandle" ∧ y'.cls ≠ "java/lang/invoke/VarHandle") (hlk : Cond.methodLink y.cls index y' ∈ lw_tbl) (hcd : Cond.code y' bytes' mx' rt' ∈ lw_tbl) (hin : Cond.initialized y'.cls ∈ lw_tbl) (hst : Cond.static y' ∈ lw_tbl)
    (hp : (parseMethodDescriptor y'.desc).map (fun d => d.parameters.length) = some n) (hn : As.length = n) (hsz : ls.size = mx) (hrest : (rest.map fun v => v.category).sum ≤ 8) (hr1 : d + 1 ≤ R.frames) (hr2 : 100 * d + 100 ≤ R.locals) (hmx : mx' ≤ 12) (hd : decode bytes pc = .ok (.invokestatic index, 3))
    (kk : ∀ L : List Loc, (∀ q ∈ L, s0.heap.size ≤ q.base) → W p l e R s m args below meth c s.heap (locs ++ L) 0 0 Q (F0 m (pc + 3) ls (res.toList ++ rest))) : W p l e R s m args below meth c s.heap locs 0 0 Q (F0 m pc ls (As.reverse ++ rest)) := by
  have hw := hB.2.2.2.2.2.2.1
  refine sp_run (mc0 := 0) (F := fun q => s0.heap.size ≤ q) (va_runS (As := As) (rest := rest) (nL := mx) ⟨hB.1, hB.2.1, hB.2.2.1, hB.2.2.2.1, fun w h => absurd h List.not_mem_nil⟩ hM ⟨⟨rfl, rfl, hr1, by show 8 + (mx' + 11) + 100 * d ≤ R.locals; omega, fun w h a' U hU => by rw [List.mem_singleton.mp h]; exact hG.word hcd rfl (State.WarmedH.trans hw hU) a', List.mem_singleton.mpr rfl, hB.wd hG hcd rfl, hB.wd hG hin rfl, hcl, len_of hp, hB.wd hG hlk rfl⟩, hB.wd hG hst rfl⟩ ⟨SPc_blind, fun U hU hWU => ⟨rfl, State.WarmedH.trans hw hWU, by rw [hU]; exact hB.2.2.2.2.2.2.2.1, fun q hq => by rw [hU]; exact hB.2.2.2.2.2.2.2.2 q hq⟩⟩ rfl hn hsz rfl (lv_room hrest) hd ⟨Nat.zero_le _, Nat.zero_le _⟩) kk
theorem lc {s0 : State} {locs L : List Loc} (h : ∀ q ∈ locs, s0.heap.size ≤ q.base) (h2 : ∀ q ∈ L, s0.heap.size ≤ q.base) : ∀ q ∈ locs ++ L, s0.heap.size ≤ q.base := fun q hq => (List.mem_append.mp hq).elim (h q) (h2 q)
theorem va_SL {s0 s : State} {locs : List Loc} (h : ∀ q ∈ locs, s0.heap.size ≤ q.base) : va_S (AA s0) s.heap s.heap locs := ⟨Nat.le_refl _, fun _ _ _ => rfl, h⟩
theorem sp_length (hG : GG s0 D cy) (hT : ST s0 adK adV) {i : Nat} (hi : i < 22) : SP l s0 1 yJ0_length_8abf5 cJ0_length_8abf5 1 (some .int) [.ref (adK i)] (some (.int (nI (lenS.getD i 0)))) := by
  refine SP.of (by decide +kernel) (Nat.le_of_ble_eq_true rfl) ?_
  intro p e s m below meth c ls hB hl
  have hE := hB.wS hT
  refine lv_aload_n hB.1 hB.2.1 dJ0_length_8abf5_0 rfl (lv_at hl 0 rfl) ?_
  refine vk_getf hB.1 hB.2.1 (hE.1 i hi).2.2.1 va_S0 hB.2.2.2.1 (hB.wd hG sf_J0_9 rfl) (fun _ h => h) dJ0_length_8abf5_1 ?_
  refine va_tlen (v := nI (lenS.getD i 0)) hB.1 hB.2.1 (hE.1 i hi).2.2.2 va_S0 rfl dJ0_length_8abf5_4 ?_
  refine lv_aload_n hB.1 hB.2.1 dJ0_length_8abf5_5 rfl (lv_at hl 0 rfl) ?_
  refine sp_V (n := 0) (As := []) (rest := [.int (nI (lenS.getD i 0))]) hG hT hB hi (sp_coder hG hT hi) rfl sl_J0_335 sc_J0_coder_7d493 si_J0_coder_7d493 ss_J0_coder_7d493 sv_J0_coder_7d493 (by decide +kernel) rfl hl.1 (Nat.le_of_ble_eq_true rfl) (by decide) (by decide) (by decide) dJ0_length_8abf5_6 (fun L hLl => ?_)
  refine lv_ishr hB.1 hB.2.1 dJ0_length_8abf5_9 ?_
  rw [sb_shr0]
  exact W.iret hB.1 hB.2.1 hB.2.2.2.2.1 (fun t ht _ => ⟨rfl, ht⟩) (lc (fun q h => by cases h) hLl) dJ0_length_8abf5_10 (hlocks := hB.2.2.2.2.2.1)
theorem sp_pchk {x n : Int32} {fv : Value} (hfv : fv.category = 1) (h0 : ¬ x < 0) (h1 : x < n) : SP l s0 0 yJ3_checkIndex_8e157 cJ3_checkIndex_8e157 3 (some .int) [.int x, .int n, fv] (some (.int x)) := by
  refine SP.of (by decide +kernel) (by cases fv <;> simp_all [lg_sl, Value.category]) ?_
  intro p e s m below meth c ls hB hl
  have hl2 : lv_has ls 3 [(0, .int x), (1, .int n), (2, fv)] := hl
  refine lv_iload_n hB.1 hB.2.1 dJ3_checkIndex_8e157_0 rfl (lv_at hl2 0 rfl) ?_
  refine lv_if_lt hB.1 hB.2.1 dJ3_checkIndex_8e157_1 (tgt := 9) (by decide) (fun h => absurd h h0) (fun _ => ?_)
  refine lv_iload_n hB.1 hB.2.1 dJ3_checkIndex_8e157_4 rfl (lv_at hl2 0 rfl) ?_
  refine lv_iload_n hB.1 hB.2.1 dJ3_checkIndex_8e157_5 rfl (lv_at hl2 1 rfl) ?_
  refine lv_icmp_lt hB.1 hB.2.1 dJ3_checkIndex_8e157_6 (tgt := 16) (by decide) (fun _ => ?_) (fun h => absurd h1 h)
  refine lv_iload_n hB.1 hB.2.1 dJ3_checkIndex_8e157_16 rfl (lv_at hl2 0 rfl) ?_
  exact W.iret hB.1 hB.2.1 hB.2.2.2.2.1 (fun t ht _ => ⟨rfl, ht⟩) (fun q h => by cases h) dJ3_checkIndex_8e157_17 (hlocks := hB.2.2.2.2.2.1)
theorem sp_schk (hG : GG s0 D cy) (hT : ST s0 adK adV) {x n : Int32} (h0 : ¬ x < 0) (h1 : x < n) : SP l s0 1 yJ0_checkIndex_df160 cJ0_checkIndex_df160 2 none [.int x, .int n] none := by
  refine SP.of (by decide +kernel) (Nat.le_of_ble_eq_true rfl) ?_
  intro p e s m below meth c ls hB hl
  have hl2 : lv_has ls 2 [(0, .int x), (1, .int n)] := hl
  refine lv_iload_n hB.1 hB.2.1 dJ0_checkIndex_df160_0 rfl (lv_at hl2 0 rfl) ?_
  refine lv_iload_n hB.1 hB.2.1 dJ0_checkIndex_df160_1 rfl (lv_at hl2 1 rfl) ?_
  have hgo : ∀ fv : Value, fv.category = 1 → va_Z "jdk/internal/util/Preconditions" "SIOOBE_FORMATTER" "Ljava/util/function/BiFunction;" fv (AA s0) s s.heap → W p l e (RMd 1 0 0) s m [Value.int x, Value.int n].toArray below meth c s.heap [] 0 0 (MQ below (SQc none) [Value.int x, Value.int n].toArray s 0 0 (fun q => s0.heap.size ≤ q)) (F0 m (0 + 1 + 1) ls [.int n, .int x]) := by
    intro fv hfv hZ
    refine va_gets hB.1 hB.2.1 hZ va_S0 hB.2.2.2.1 (hB.wd hG sf_J0_1053 rfl) (fun _ h => h) dJ0_checkIndex_df160_2 ?_
    refine sp_S (n := 3) (As := [.int x, .int n, fv]) (rest := []) hG hB (sp_pchk hfv h0 h1) (by decide +kernel) sl_J0_1059 sc_J3_checkIndex_8e157 si_J3_checkIndex_8e157 ss_J3_checkIndex_8e157 (by decide +kernel) rfl hl.1 (Nat.le_of_ble_eq_true rfl) (by decide) (by decide) (by decide) dJ0_checkIndex_df160_5 (fun L hLl => ?_)
    refine lv_pop hB.1 hB.2.1 dJ0_checkIndex_df160_8 rfl ?_
    exact W.vret hB.1 hB.2.1 hB.2.2.2.2.1 (fun t ht _ => ⟨rfl, ht⟩) (lc (fun q h => by cases h) hLl) dJ0_checkIndex_df160_9 (hlocks := hB.2.2.2.2.2.1)
  rcases hB.wQ hT with h | ⟨t, h⟩
  · exact hgo .null rfl h
  · exact hgo (.ref t) rfl h
end STR2
