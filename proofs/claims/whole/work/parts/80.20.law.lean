/-! THE CLAIM OUT OF ONE WALK OF THE LAW'S BODY. Your part is whole_start (and what it stands on); all else here is the same for every law, but numbers. -/
def R_law : String := "OldNeighboursLaw"
def lw_P (b : Addr) (xs : List Int32) (args : Array Value) (s : State) : Prop := args = #[.ref b] ∧ s.IntsAt b xs ∧ xs.length ≤ 3072 ∧ (Jvm.Cond.and given_1 narrow_1).before args s = true
def lw_Q (_ : Array Value) (s : State) (o : Outcome) (t : State) : Prop := o = .returned (some (.int 1)) ∧ Framed s o t [] 600000 7302250
def lw_Z (below : List Frame) (a : Array Value) (s : State) : State → Prop := fun t => ∃ o, t.status = .running ∧ Ended t below o ∧ lw_Q a s o t
/-- the law's own end, with 1 on the stack, nothing written that was there before, its room as the claim has it -/
theorem lw_ret {p : Program} {l : Launch} {e : Env} {s : State} {m : MethodId} {below : List Frame} {meth : Method} {c : Code} {b : Nat} (hx : p.tables.exec = Jvm.exec) (hb : c.code = code) (hr : meth.sig.returnType = ret) (hlocks : meth.locks = false) {pc : Nat} {H : Heap} {ls : Array Slot} (hdg : decode code pc = .ok (.ireturn, 1)) : W p l e room_1 s m #[Value.ref b] below meth c H [] 600000 7302250 (lw_Z below #[Value.ref b] s) (F0 m pc ls [.int 1]) := by
  intro T hT X
  obtain ⟨fs, hret, hrun, hended, hW, hframe⟩ := X.leave (v := some (.int 1)) (hlocks := hlocks) (fun h => by rw [hr] at h; cases h)
  have hmeth' : T.vm.method? m = some meth := X.method'
  refine ⟨T.setFrames fs, ?_, .returned (some (.int 1)), hrun, hended, rfl, ⟨_, rfl⟩, hW, hframe⟩
  jvm_step X.here [X.here.top, hx, hb, hdg, hmeth', hr, ret, narrow_b1]
  (try refine ⟨rfl, ?_⟩); (try refine ⟨rfl, ?_⟩)
  first | (intro acts; rw [hret _ acts rfl rfl rfl]) | rw [hret _ _ rfl rfl rfl]
  exact Steps.refl _
/-- what holds at the law's entry: the machine, the code, the tables' words (any of lw_tbl by 'hts w (by decide +kernel)'), the script of L ints xs at the cell b, what the Statement gives of the start (any of its parts by flat_of_before) -/
def lw_At (p : Program) (s : State) (m : MethodId) (meth : Method) (c : Code) (b L : Nat) (xs : Nat → Int32) : Prop :=
  p.tables.exec = Jvm.exec ∧ c.code = code ∧ meth.sig.returnType = ret ∧ c.maxLocals = 4 ∧ s.vm.findClass R_law = some m.cls ∧ (∀ w ∈ lw_tbl, w.before #[Value.ref b] s = true) ∧ va_X b L xs s s.heap ∧ b < s.heap.size ∧ meth.locks = false ∧ (Jvm.Cond.and given_1 narrow_1).before #[Value.ref b] s = true
/-! ===== the law out of the abstract machine ===== -/
def M00 : Mem := (0, 0, fun _ => (99, 0), fun _ _ => none, fun _ _ => 0, fun _ _ => 0)
theorem arr_prim {s : State} {A0 : Array Value} {ty : FieldType} (h : (Cond.arrayClass ty).before A0 s = true) (hp : ∀ C, ty ≠ .object C) : ∃ cA : ClassId, ArrOfT s cA ty ∧ va_RA s cA ty := by
  obtain ⟨cA, kA, comp, hfind, hk, hkind⟩ := Cond.arrayClass_spec h
  refine ⟨cA, fun n z => ⟨fun k h => (by cases h), kA, hk, comp, hkind⟩, ?_⟩
  cases ty with
  | object C => exact absurd rfl (hp C)
  | _ => exact hfind
theorem arr_ref {s : State} {A0 : Array Value} {C : String} (h : (Cond.arrayOver (.object C)).before A0 s = true) : ∃ cA : ClassId, ArrOfT s cA (.object C) ∧ va_RA s cA (.object C) := by
  obtain ⟨comp, cA, kA, h1, h2, h3, h4, h5⟩ := Cond.arrayOver_spec h
  exact ⟨cA, fun n z => ⟨fun k h => (by cases h), kA, h3, comp, h4⟩, kA, comp, h3, h4, h1, h5⟩
theorem K_start {s : State} {A0 : Array Value} (hts : ∀ w ∈ lw_tbl, w.before A0 s = true) : ∃ (D : va_G) (cy : Nat → ClassId), va_K D vwCl (tyC cy) s := by
  have h1 : ∀ ci, ∃ q : ClassId × (Nat → Nat), ci < 13 → u_Kn s (clO ci).1 (clO ci).2.1 (clO ci).2.2 q.1 q.2 := by
    intro ci
    by_cases h : ci < 13
    · obtain ⟨a, b, hab⟩ := u_known (ws := lw_tbl) hts (lay_all ci h) (hts _ (inst_all ci (List.mem_range.mpr h)))
      exact ⟨(a, b), fun _ => hab⟩
    · exact ⟨(0, fun _ => 0), fun q => absurd q h⟩
  obtain ⟨a0, f0⟩ := arr_prim (hts _ w_aint) (fun C h => by cases h)
  obtain ⟨a1, f1⟩ := arr_prim (hts _ w_along) (fun C h => by cases h)
  obtain ⟨a2, f2⟩ := arr_prim (hts _ w_aboolean) (fun C h => by cases h)
  obtain ⟨a3, f3⟩ := arr_ref (hts _ w_oRule)
  obtain ⟨a4, f4⟩ := arr_ref (hts _ w_oWall)
  refine ⟨(fun ci => (Classical.choose (h1 ci)).1, fun ci => (Classical.choose (h1 ci)).2), fun k => if k = 20 then a0 else if k = 21 then a1 else if k = 22 then a2 else if k = 23 then a3 else a4, fun ci q hq => ?_, fun k q hk => ?_⟩
  · have hci : ci < 13 := (List.getElem?_eq_some_iff.mp hq).1
    rw [clO_get ci hci] at hq
    cases hq
    exact Classical.choose_spec (h1 ci) hci
  · match k, hk with
    | 0, hk => cases hk; exact f0
    | 1, hk => cases hk; exact f1
    | 2, hk => cases hk; exact f2
    | 3, hk => cases hk; exact f3
    | 4, hk => cases hk; exact f4
    | k + 5, hk => simp [tyC] at hk
/-- the law, from its entry, by a run of the abstract machine that answers 1 -/
theorem law_W {p : Program} {e : Env} {s : State} {m : MethodId} {below : List Frame} {meth : Method} {c : Code} (l : Launch) {b Lx : Nat} {xs : Nat → Int32} (C0 : lw_At p s m meth c b Lx xs) {D : va_G} {cy : Nat → ClassId} {SA : Nat → Nat} (hG : GG s D cy) (hSA : SA 1000 = b) (hS : SC s s.heap s.heap.size SA (Lx, xs)) (hP : PrH l s D cy s.heap.size s.heap SA (Lx, xs)) {n : Nat} {M' : Mem}
    (hrun : runF (callF (Lx, xs) 800) (Lx, xs) 269 n 0 (entL 269 [.float 1000]) [] M00 = some (some (.int 1), M')) (hn : m_n M' ≤ 600000) (hz : m_z M' ≤ 7302250) : W p l e room_1 s m #[Value.ref b] below meth c s.heap [] 0 0 (lw_Z below #[Value.ref b] s) (entryFrame m ([Value.ref b] : List Value).toArray 4) := by
  obtain ⟨hx, hb, hr, hml, hown, hts, hX, hbl, hlocks, hgv⟩ := id C0
  have hB : BB s p s m meth c 269 := ⟨hx, hb, hml, hown, State.WarmedH.refl s, hr, hlocks, fun h => absurd h (by decide +kernel)⟩
  have hCK := callF_snd hG hS hP okm_all 800
  have h1 := runF_snd (p := p) (e := e) (R := room_1) (args := #[Value.ref b]) (below := below) (Q := lw_Z below #[Value.ref b] s) (n0 := 0) (z0 := 0) (rr := (some (.int 1), M')) hG hB (okm_all 269 (by decide)) hS hCK (by decide) (by decide) (hP 800 p e room_1 s m _ below meth c _ 269 0 0 hB (by decide +kernel) (by decide) (by decide)) (by show m_n M' - 0 ≤ 600000; omega) (by show m_z M' - 0 ≤ 7302250; omega)
    (fun bk pc len a L st M hd hok hst => by
      have hT := stp_ctl hst
      obtain ⟨i, r1, r2, r3⟩ := a
      cases i with
      | ireturn =>
        simp only [okI, Bool.and_eq_true, decide_eq_true_eq] at hok
        obtain ⟨rfl, hok⟩ := hok
        simp only [stp] at hst
        split at hst
        · next x =>
          have hx1 : M = M' ∧ x = 1 := by
            split at hst
            · have := s_rt_inj hst; cases this; exact ⟨rfl, rfl⟩
            · split at hst
              · have := s_rt_inj hst; cases this; exact ⟨rfl, rfl⟩
              · cases hst
          obtain ⟨rfl, rfl⟩ := hx1
          intro H locs ls hL hR hl
          refine va_forget hl ?_
          refine W.widen (k := 600000) (n := 7302250) (by omega) (by omega) ?_
          exact lw_ret hx hb hr hlocks hd
        · cases hst
      | lreturn => simp only [stp] at hst; split at hst <;> cases hst
      | return_ => simp only [stp] at hst; split at hst <;> cases hst
      | goto _ => cases hst
      | if_icmp _ _ => simp only [stp] at hst; split at hst <;> first | (cases hst; done) | (split at hst <;> cases hst)
      | ifCond _ _ => simp only [stp] at hst; split at hst <;> first | (cases hst; done) | (split at hst <;> cases hst)
      | tableswitch _ _ _ _ => simp only [stp] at hst; split at hst <;> first | (cases hst; done) | (rw [swj_r] at hst; cases hst)
      | lookupswitch _ _ => simp only [stp] at hst; split at hst <;> first | (cases hst; done) | (rw [swj_r] at hst; cases hst)
      | _ => cases hT) n 0 (entL 269 [.float 1000]) [] M00 hrun (Nat.zero_le _) (Nat.zero_le _)
  have hR : RepA D cy s.heap.size s.heap M00 s.heap := ⟨rfl, fun q _ => rfl, fun a ha => absurd ha (Nat.not_lt_zero a), fun a _ => rfl⟩
  have h2 := h1 s.heap [] _ (LO_entry (k := 269) (vs := [.float 1000]) (by decide +kernel)) hR (fun q hq => by cases hq)
  rw [pc_0 269 (by decide)] at h2
  rw [lg_entry_eq]
  have e1 : [Value.float 1000].map (cvV s.heap.size SA) = [Value.ref b] := by show [Value.ref (SA 1000)] = _; rw [hSA]
  rw [e1] at h2
  exact h2
