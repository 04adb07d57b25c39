/-! ===== stores into arrays, new cells, copies, the JDK's own ===== -/
theorem cvV_rf {B : Nat} {SA : Nat → Nat} (r : Option Nat) : cvV B SA (va_rf r) = va_rf (r.map (B + ·)) := by cases r <;> rfl
theorem RepA.ast {D : va_G} {cy : Nat → ClassId} {B : Nat} {H0 : Heap} {M M' : Mem} {H H' : Heap} {o k i : Nat} {v : Value} (hR : RepA D cy B H0 M H) (hsh : (m_sh M o).1 = k) (hk : 20 ≤ k) (hk2 : k < 25) (g1 : H'[B + o]? = some ((arrV (cy k) (m_sh M o).2 (arrF B M o k)).setSlot i v)) (g2 : H'.size = H.size) (g3 : ∀ q, q ≠ B + o → H'[q]? = H[q]?)
    (e1 : m_n M' = m_n M) (e3 : m_sh M' = m_sh M) (eI : ∀ b, b ≠ o → m_I M' b = m_I M b) (eJ : ∀ b, b ≠ o → m_J M' b = m_J M b) (eR : ∀ b, b ≠ o → m_R M' b = m_R M b) (hv : updV (arrF B M o k) i v = arrF B M' o k) : RepA D cy B H0 M' H' := by
  refine hR.put (hR.lt hsh (by omega)) g2 g3 ?_ e1 e3 eI eJ eR
  unfold celA
  rw [e3, hsh, if_neg (by omega), g1, arrV_store, hv]
theorem wI_I (M : Mem) (a k : Nat) (v : Int32) : ∀ b, b ≠ a → m_I (m_wI M a k v) b = m_I M b := fun b h => up_n _ _ h
theorem wJ_J (M : Mem) (a k : Nat) (v : Int64) : ∀ b, b ≠ a → m_J (m_wJ M a k v) b = m_J M b := fun b h => up_n _ _ h
theorem wR_R (M : Mem) (a k : Nat) (v : Option Nat) : ∀ b, b ≠ a → m_R (m_wR M a k v) b = m_R M b := fun b h => up_n _ _ h
theorem rI_I (M : Mem) (a : Nat) (f : Nat → Int32) : ∀ b, b ≠ a → m_I (m_rI M a f) b = m_I M b := fun b h => up_n _ _ h
theorem rJ_J (M : Mem) (a : Nat) (f : Nat → Int64) : ∀ b, b ≠ a → m_J (m_rJ M a f) b = m_J M b := fun b h => up_n _ _ h
theorem locs_snoc {B o i : Nat} {locs : List Loc} (hl : ∀ q ∈ locs, B ≤ q.base) : ∀ q ∈ locs ++ [⟨B + o, i⟩], B ≤ q.base := fun q hq => by
  rcases List.mem_append.mp hq with h | h
  · exact hl q h
  · rw [List.mem_singleton.mp h]; exact Nat.le_add_right _ _
section HEAP2
variable {p : Program} {l : Launch} {e : Env} {R : Room} {s s0 : State} {m : MethodId} {args : Array Value} {below : List Frame} {meth : Method} {c : Code} {Q : State → Prop} {D : va_G} {cy : Nat → ClassId} {B : Nat} {H0 : Heap} {SA : Nat → Nat} {mi n0 z0 : Nat} {pc : Nat} {L st : List Value} {M : Mem}
theorem sn_aaload (hG : GG s0 D cy) (hB : BB s0 p s m meth c mi) {o : Nat} {i : Int32} (hsh : (m_sh M o).1 = 23 ∨ (m_sh M o).1 = 24) (hin : inb i (m_sh M o).2 = true) (hd : decode (mt mi).2.1 pc = .ok (.aaload, 1)) (kk : WP p l e R s m args below meth c Q D cy B H0 SA mi n0 z0 (pc + 1) (L) (va_rf (m_R M o i.toNatClampNeg) :: st) (M)) : WP p l e R s m args below meth c Q D cy B H0 SA mi n0 z0 (pc) (L) (.int i :: .ref o :: st) (M) := by
  intro H locs ls hL hR hl
  have hK := sn_K hG hB
  have k2 := kk H locs ls hL hR hl
  rw [List.map_cons, cvV_rf] at k2
  rcases hsh with hsh | hsh
  · have ha := hR.arr hsh (by omega) (by omega)
    exact W.aald hB.1 hB.2.1 ha ((hK.2 3 _ rfl).1 _ _) rfl (fun q => by cases q) (by rw [arrV_size]; exact inb_vp hin) (arrV_read _ _ (inb_in hin).2) rfl rfl hd k2
  · have ha := hR.arr hsh (by omega) (by omega)
    exact W.aald hB.1 hB.2.1 ha ((hK.2 4 _ rfl).1 _ _) rfl (fun q => by cases q) (by rw [arrV_size]; exact inb_vp hin) (arrV_read _ _ (inb_in hin).2) rfl rfl hd k2
theorem sn_iastore (hG : GG s0 D cy) (hB : BB s0 p s m meth c mi) {o : Nat} {i : Int32} {x : Int32} (hsh : (m_sh M o).1 = 20) (hin : inb i (m_sh M o).2 = true) (hd : decode (mt mi).2.1 pc = .ok (.iastore, 1)) (kk : WP p l e R s m args below meth c Q D cy B H0 SA mi n0 z0 (pc + 1) (L) (st) (m_wI M o i.toNatClampNeg x)) : WP p l e R s m args below meth c Q D cy B H0 SA mi n0 z0 (pc) (L) (.int x :: .int i :: .ref o :: st) (M) := by
  intro H locs ls hL hR hl
  have hK := sn_K hG hB
  have ha := hR.arr hsh (by omega) (by omega)
  refine W.iast hB.1 hB.2.1 ha ((hK.2 0 _ rfl).1 _ _) (fun q => by cases q) (by rw [arrV_size]; exact inb_vp hin) rfl rfl hd fun H' g1 g2 g3 => ?_
  exact kk H' _ ls hL (hR.ast hsh (by omega) (by omega) g1 g2 g3 rfl rfl (wI_I _ _ _ _) (fun _ _ => rfl) (fun _ _ => rfl) (by
    funext j
    show updV _ _ _ j = arrF B (m_wI M o i.toNatClampNeg x) o 20 j
    unfold updV
    by_cases e : j = i.toNatClampNeg
    · rw [if_pos e]; subst e; show _ = (.int (m_I (m_wI M o i.toNatClampNeg x) o i.toNatClampNeg) : Value); exact congrArg _ (by show x = va_up (m_I M) o (va_up (m_I M o) i.toNatClampNeg x) o i.toNatClampNeg; rw [up_s, up_s])
    · rw [if_neg e]; show _ = (.int (m_I (m_wI M o i.toNatClampNeg x) o j) : Value); exact congrArg _ (by show m_I M o j = va_up (m_I M) o (va_up (m_I M o) i.toNatClampNeg x) o j; rw [up_s, up_n _ _ e]))) (locs_snoc hl)
theorem sn_lastore (hG : GG s0 D cy) (hB : BB s0 p s m meth c mi) {o : Nat} {i : Int32} {x : Int64} (hsh : (m_sh M o).1 = 21) (hin : inb i (m_sh M o).2 = true) (hd : decode (mt mi).2.1 pc = .ok (.lastore, 1)) (kk : WP p l e R s m args below meth c Q D cy B H0 SA mi n0 z0 (pc + 1) (L) (st) (m_wJ M o i.toNatClampNeg x)) : WP p l e R s m args below meth c Q D cy B H0 SA mi n0 z0 (pc) (L) (.long x :: .int i :: .ref o :: st) (M) := by
  intro H locs ls hL hR hl
  have hK := sn_K hG hB
  have ha := hR.arr hsh (by omega) (by omega)
  refine W.last hB.1 hB.2.1 ha ((hK.2 1 _ rfl).1 _ _) (fun q => by cases q) (by rw [arrV_size]; exact inb_vp hin) rfl rfl hd fun H' g1 g2 g3 => ?_
  exact kk H' _ ls hL (hR.ast hsh (by omega) (by omega) g1 g2 g3 rfl rfl (fun _ _ => rfl) (wJ_J _ _ _ _) (fun _ _ => rfl) (by
    funext j
    show updV _ _ _ j = arrF B (m_wJ M o i.toNatClampNeg x) o 21 j
    unfold updV
    by_cases e : j = i.toNatClampNeg
    · rw [if_pos e]; subst e; show _ = (.long (m_J (m_wJ M o i.toNatClampNeg x) o i.toNatClampNeg) : Value); exact congrArg _ (by show x = va_up (m_J M) o (va_up (m_J M o) i.toNatClampNeg x) o i.toNatClampNeg; rw [up_s, up_s])
    · rw [if_neg e]; show _ = (.long (m_J (m_wJ M o i.toNatClampNeg x) o j) : Value); exact congrArg _ (by show m_J M o j = va_up (m_J M) o (va_up (m_J M o) i.toNatClampNeg x) o j; rw [up_s, up_n _ _ e]))) (locs_snoc hl)
theorem sn_bastore (hG : GG s0 D cy) (hB : BB s0 p s m meth c mi) {o : Nat} {i : Int32} {x : Int32} (hsh : (m_sh M o).1 = 22) (hin : inb i (m_sh M o).2 = true) (hb1 : x &&& 1 = x) (hd : decode (mt mi).2.1 pc = .ok (.bastore, 1)) (kk : WP p l e R s m args below meth c Q D cy B H0 SA mi n0 z0 (pc + 1) (L) (st) (m_wI M o i.toNatClampNeg x)) : WP p l e R s m args below meth c Q D cy B H0 SA mi n0 z0 (pc) (L) (.int x :: .int i :: .ref o :: st) (M) := by
  intro H locs ls hL hR hl
  have hK := sn_K hG hB
  have ha := hR.arr hsh (by omega) (by omega)
  refine W.zast hB.1 hB.2.1 ha ((hK.2 2 _ rfl).1 _ _) (fun q => by cases q) (by rw [arrV_size]; exact inb_vp hin) rfl rfl hd fun H' g1 g2 g3 => ?_
  rw [show narrow .boolean (.int x) = .int x from congrArg Value.int hb1] at g1; exact kk H' _ ls hL (hR.ast hsh (by omega) (by omega) g1 g2 g3 rfl rfl (wI_I _ _ _ _) (fun _ _ => rfl) (fun _ _ => rfl) (by
    funext j
    show updV _ _ _ j = arrF B (m_wI M o i.toNatClampNeg x) o 22 j
    unfold updV
    by_cases e : j = i.toNatClampNeg
    · rw [if_pos e]; subst e; show _ = (.int (m_I (m_wI M o i.toNatClampNeg x) o i.toNatClampNeg) : Value); exact congrArg _ (by show x = va_up (m_I M) o (va_up (m_I M o) i.toNatClampNeg x) o i.toNatClampNeg; rw [up_s, up_s])
    · rw [if_neg e]; show _ = (.int (m_I (m_wI M o i.toNatClampNeg x) o j) : Value); exact congrArg _ (by show m_I M o j = va_up (m_I M) o (va_up (m_I M o) i.toNatClampNeg x) o j; rw [up_s, up_n _ _ e]))) (locs_snoc hl)
theorem sn_aastore (hG : GG s0 D cy) (hB : BB s0 p s m meth c mi) {o x : Nat} {i : Int32} (hsh : ((m_sh M o).1 = 23 ∧ (m_sh M x).1 = 6) ∨ ((m_sh M o).1 = 24 ∧ (m_sh M x).1 = 9)) (hin : inb i (m_sh M o).2 = true) (hd : decode (mt mi).2.1 pc = .ok (.aastore, 1)) (kk : WP p l e R s m args below meth c Q D cy B H0 SA mi n0 z0 (pc + 1) (L) (st) (m_wR M o i.toNatClampNeg (some x))) : WP p l e R s m args below meth c Q D cy B H0 SA mi n0 z0 (pc) (L) (.ref x :: .int i :: .ref o :: st) (M) := by
  intro H locs ls hL hR hl
  have hK := sn_K hG hB
  have hgo : ∀ (k t ci : Nat) (C : String), (m_sh M o).1 = k → (m_sh M x).1 = ci → ci < 13 → 23 ≤ k → k < 25 → (clO ci).1 = C → (tyC cy)[t]? = some (cy k, FieldType.object C) → W p l e R s m args below meth c H locs (m_n M - n0) (m_z M - z0) Q (F0 m pc ls ((.ref x :: .int i :: .ref o :: st : List Value).map (cvV B SA))) := by
    intro k t ci C h1 h2 hci hk1 hk2 hC ht
    have ha := hR.arr h1 (by omega) hk2
    obtain ⟨cellV, g1, g2, g3, -⟩ := hR.obj h2 hci
    have hcls := (hK.1 ci _ (clO_get ci hci)).2
    obtain ⟨kA, comp, k1, k2, k3, -⟩ := (hK.2 t _ ht).2
    have hcomp : comp = D.1 ci := Option.some.inj (k3.symm.trans (by rw [← hC]; exact hcls.1))
    subst hcomp
    obtain ⟨kC, hkC, -⟩ := hcls.2
    refine W.aast hB.1 hB.2.1 ha (fun q h => by cases h) (fun h => by cases h) k1 k2 rfl hkC ⟨(inb_in hin).1, by show _ < (arrV _ _ _).slots.size; rw [arrV_size]; exact (inb_in hin).2⟩ g1 (fun q h => by rw [g3] at h; cases h) (by rw [g2]; exact hkC) (by rw [g2]; exact va_assign hcls) rfl rfl hd fun H' e1 e2 e3 => ?_
    refine kk H' _ ls hL (hR.ast h1 (by omega) hk2 e1 e2 e3 rfl rfl (fun _ _ => rfl) (fun _ _ => rfl) (wR_R _ _ _ _) ?_) (locs_snoc hl)
    funext j
    have hk3 : k = 23 ∨ k = 24 := by omega
    have e0 : ∀ (N : Mem), arrF B N o k j = va_rf ((m_R N o j).map (B + ·)) := by intro N; rcases hk3 with rfl | rfl <;> rfl
    rw [e0]
    unfold updV
    by_cases e : j = i.toNatClampNeg
    · rw [if_pos e]; subst e
      show _ = va_rf ((va_up (m_R M) o (va_up (m_R M o) i.toNatClampNeg (some x)) o i.toNatClampNeg).map (B + ·))
      rw [up_s, up_s]; rfl
    · rw [if_neg e, e0]
      show _ = va_rf ((va_up (m_R M) o (va_up (m_R M o) i.toNatClampNeg (some x)) o j).map (B + ·))
      rw [up_s, up_n _ _ e]
  rcases hsh with ⟨h1, h2⟩ | ⟨h1, h2⟩
  · exact hgo 23 3 6 RX7 h1 h2 (by omega) (by omega) (by omega) rfl rfl
  · exact hgo 24 4 9 RX10 h1 h2 (by omega) (by omega) (by omega) rfl rfl
theorem sn_alen (hG : GG s0 D cy) (hB : BB s0 p s m meth c mi) {o : Nat} (h1 : 20 ≤ (m_sh M o).1) (h2 : (m_sh M o).1 < 25) (hd : decode (mt mi).2.1 pc = .ok (.arraylength, 1)) (kk : WP p l e R s m args below meth c Q D cy B H0 SA mi n0 z0 (pc + 1) (L) (.int (nI (m_sh M o).2) :: st) (M)) : WP p l e R s m args below meth c Q D cy B H0 SA mi n0 z0 (pc) (L) (.ref o :: st) (M) := by
  intro H locs ls hL hR hl
  have hK := sn_K hG hB
  have ha := hR.arr rfl h1 h2
  have hA : ∃ ty, s.isArrayOf (arrV (cy (m_sh M o).1) (m_sh M o).2 (arrF B M o (m_sh M o).1)) ty := by
    generalize (m_sh M o).1 = k at h1 h2
    have hk : k = 20 ∨ k = 21 ∨ k = 22 ∨ k = 23 ∨ k = 24 := by omega
    rcases hk with rfl | rfl | rfl | rfl | rfl
    · exact ⟨_, (hK.2 0 _ rfl).1 _ _⟩
    · exact ⟨_, (hK.2 1 _ rfl).1 _ _⟩
    · exact ⟨_, (hK.2 2 _ rfl).1 _ _⟩
    · exact ⟨_, (hK.2 3 _ rfl).1 _ _⟩
    · exact ⟨_, (hK.2 4 _ rfl).1 _ _⟩
  obtain ⟨ty, hA⟩ := hA
  exact W.alen (n := nI (m_sh M o).2) hB.1 hB.2.1 ha hA (by rw [arrV_size]; rfl) rfl rfl hd (kk H locs ls hL hR hl)
/-- a new cell at the heap's end -/
theorem RepA.new {D : va_G} {cy : Nat → ClassId} {B : Nat} {H0 : Heap} {M : Mem} {H H' : Heap} {kd len : Nat} (hR : RepA D cy B H0 M H) (hk : kd ≠ 99) (z1 : H'.size = H.size + 1) (o1 : ∀ q, q < H.size → H'[q]? = H[q]?) (hc : celA D cy B (m_nw M kd len) (m_n M) H') : RepA D cy B H0 (m_nw M kd len) H' := by
  obtain ⟨h1, h2, h3, h4⟩ := hR
  refine ⟨by rw [z1, h1]; rfl, fun q hq => (o1 q (by omega)).trans (h2 q hq), fun a ha => ?_, fun a ha => ?_⟩
  · have ha' : a < m_n M + 1 := ha
    by_cases e : a = m_n M
    · subst e; exact hc
    · refine (h3 a (by omega)).kept (o1 _ (by omega)) ?_ ?_ ?_ ?_
      · exact up_n _ _ e
      · exact up_n _ _ e
      · exact up_n _ _ e
      · exact up_n _ _ e
  · have ha' : m_n M + 1 ≤ a := ha
    show (va_up (m_sh M) (m_n M) (kd, len) a).1 = 99
    rw [up_n _ _ (by omega)]
    exact h4 a (by omega)
theorem nw_sh {M : Mem} {kd len : Nat} : m_sh (m_nw M kd len) (m_n M) = (kd, len) := up_s _ _ _
theorem nw_I {M : Mem} {kd len : Nat} : m_I (m_nw M kd len) (m_n M) = fun _ => 0 := up_s _ _ _
theorem nw_J {M : Mem} {kd len : Nat} : m_J (m_nw M kd len) (m_n M) = fun _ => 0 := up_s _ _ _
theorem nw_R {M : Mem} {kd len : Nat} : m_R (m_nw M kd len) (m_n M) = fun _ => none := up_s _ _ _
theorem sn_new (hG : GG s0 D cy) (hB : BB s0 p s m meth c mi) {i ci : Nat} (hci : ci < 13) (h19 : mC mi < 19) (hq : (i, ci) ∈ nwt (mC mi)) (hn0 : n0 ≤ m_n M) (hz0 : z0 ≤ m_z M) (hc1 : m_n M - n0 + 1 ≤ R.cells) (hc2 : m_z M - z0 + (clO ci).2.2 ≤ R.slots) (hd : decode (mt mi).2.1 pc = .ok (.new i, 3)) (kk : WP p l e R s m args below meth c Q D cy B H0 SA mi n0 z0 (pc + 3) (L) (.ref (m_n M) :: st) (m_nw M ci (clO ci).2.2)) : WP p l e R s m args below meth c Q D cy B H0 SA mi n0 z0 (pc) (L) (st) (M) := by
  intro H locs ls hL hR hl
  have hK := sn_K hG hB
  have hKn := hK.1 ci _ (clO_get ci hci)
  have hlay := sn_lay (args := args) hG hB hci
  have hw := hB.2.2.2.2.1
  refine W.newcK hB.1 hB.2.1 hB.2.2.2.1 (hG.word (nww_all (mC mi) h19 _ hq) rfl hw args) (hG.word (inst_all ci (List.mem_range.mpr hci)) rfl hw args) (hG.word (inic_all ci (List.mem_range.mpr hci)) rfl hw args) rfl hd hc1 hc2 hKn.2.1 hR.1 fun H' kC hkC e1 z1 o1 => ?_
  have k2 := kk H' locs ls hL (hR.new (by omega) (by rw [z1, hR.1]) (fun q hq => o1 q (by rw [← hR.1]; exact hq)) (by
    unfold celA
    rw [nw_sh, if_pos hci]
    refine (u_born (tyO ci) hlay (fun w h => h) hKn hkC e1 (ty_all ci hci)).to (fun j hj => ?_)
    rw [dfv_all ci hci j hj]
    unfold fldV
    rw [nw_I, nw_J, nw_R]
    show (match ftO ci j with | 1 => .long 0 | 2 => .null | _ => .int 0 : Value) = (match ftO ci j with | 1 => .long ((fun _ => 0) j) | 2 => va_rf (Option.map (fun x => B + x) ((fun _ => none) j)) | _ => .int ((fun _ => 0) j) : Value)
    generalize ftO ci j = t
    rcases t with _ | _ | _ | t <;> rfl)) hl
  have c1 : m_n (m_nw M ci (clO ci).2.2) - n0 = m_n M - n0 + 1 := by show m_n M + 1 - n0 = _; omega
  have c2 : m_z (m_nw M ci (clO ci).2.2) - z0 = m_z M - z0 + (clO ci).2.2 := by show m_z M + (clO ci).2.2 - z0 = _; omega
  rw [c1, c2] at k2
  exact k2
theorem sn_newa_int (hG : GG s0 D cy) (hB : BB s0 p s m meth c mi) {x : Int32} (hx0 : ¬ x < 0) (hx1 : x.toNatClampNeg ≤ 65536) (hn0 : n0 ≤ m_n M) (hz0 : z0 ≤ m_z M) (hc1 : m_n M - n0 + 1 ≤ R.cells) (hc2 : m_z M - z0 + x.toNatClampNeg ≤ R.slots) (hd : decode (mt mi).2.1 pc = .ok (.newarray .int, 2)) (kk : WP p l e R s m args below meth c Q D cy B H0 SA mi n0 z0 (pc + 2) (L) (.ref (m_n M) :: st) (m_nw M 20 x.toNatClampNeg)) : WP p l e R s m args below meth c Q D cy B H0 SA mi n0 z0 (pc) (L) (.int x :: st) (M) := by
  intro H locs ls hL hR hl
  have hK := sn_K hG hB
  refine va_newaK hB.1 hB.2.1 (atype := .int) (hG.word w_aint rfl hB.2.2.2.2.1 args) rfl hd rfl hx0 rfl (Nat.le_trans (Nat.mul_le_mul_right _ hx1) (by decide)) hc1 hc2 hR.1 fun H' cA e1 z1 o1 hAr hNm => ?_
  have hcA : cA = cy 20 := by
    have h2 := (hK.2 0 _ rfl).2
    exact Option.some.inj (hNm.symm.trans h2)
  subst hcA
  have k2 := kk H' locs ls hL (hR.new (by omega) (by rw [z1, hR.1]) (fun q hq => o1 q (by rw [← hR.1]; exact hq)) (by
    unfold celA
    rw [nw_sh, if_neg (by show ¬ 20 < 13; decide), e1]
    congr 2
    funext j
    unfold arrF
    rw [nw_I, nw_J, nw_R]
    rfl)) hl
  have c1 : m_n (m_nw M 20 x.toNatClampNeg) - n0 = m_n M - n0 + 1 := by show m_n M + 1 - n0 = _; omega
  have c2 : m_z (m_nw M 20 x.toNatClampNeg) - z0 = m_z M - z0 + x.toNatClampNeg := by show m_z M + x.toNatClampNeg - z0 = _; omega
  rw [c1, c2] at k2
  exact k2
theorem sn_newa_long (hG : GG s0 D cy) (hB : BB s0 p s m meth c mi) {x : Int32} (hx0 : ¬ x < 0) (hx1 : x.toNatClampNeg ≤ 65536) (hn0 : n0 ≤ m_n M) (hz0 : z0 ≤ m_z M) (hc1 : m_n M - n0 + 1 ≤ R.cells) (hc2 : m_z M - z0 + x.toNatClampNeg ≤ R.slots) (hd : decode (mt mi).2.1 pc = .ok (.newarray .long, 2)) (kk : WP p l e R s m args below meth c Q D cy B H0 SA mi n0 z0 (pc + 2) (L) (.ref (m_n M) :: st) (m_nw M 21 x.toNatClampNeg)) : WP p l e R s m args below meth c Q D cy B H0 SA mi n0 z0 (pc) (L) (.int x :: st) (M) := by
  intro H locs ls hL hR hl
  have hK := sn_K hG hB
  refine va_newaK hB.1 hB.2.1 (atype := .long) (hG.word w_along rfl hB.2.2.2.2.1 args) rfl hd rfl hx0 rfl (Nat.le_trans (Nat.mul_le_mul_right _ hx1) (by decide)) hc1 hc2 hR.1 fun H' cA e1 z1 o1 hAr hNm => ?_
  have hcA : cA = cy 21 := by
    have h2 := (hK.2 1 _ rfl).2
    exact Option.some.inj (hNm.symm.trans h2)
  subst hcA
  have k2 := kk H' locs ls hL (hR.new (by omega) (by rw [z1, hR.1]) (fun q hq => o1 q (by rw [← hR.1]; exact hq)) (by
    unfold celA
    rw [nw_sh, if_neg (by show ¬ 21 < 13; decide), e1]
    congr 2
    funext j
    unfold arrF
    rw [nw_I, nw_J, nw_R]
    rfl)) hl
  have c1 : m_n (m_nw M 21 x.toNatClampNeg) - n0 = m_n M - n0 + 1 := by show m_n M + 1 - n0 = _; omega
  have c2 : m_z (m_nw M 21 x.toNatClampNeg) - z0 = m_z M - z0 + x.toNatClampNeg := by show m_z M + x.toNatClampNeg - z0 = _; omega
  rw [c1, c2] at k2
  exact k2
theorem sn_newa_boolean (hG : GG s0 D cy) (hB : BB s0 p s m meth c mi) {x : Int32} (hx0 : ¬ x < 0) (hx1 : x.toNatClampNeg ≤ 65536) (hn0 : n0 ≤ m_n M) (hz0 : z0 ≤ m_z M) (hc1 : m_n M - n0 + 1 ≤ R.cells) (hc2 : m_z M - z0 + x.toNatClampNeg ≤ R.slots) (hd : decode (mt mi).2.1 pc = .ok (.newarray .boolean, 2)) (kk : WP p l e R s m args below meth c Q D cy B H0 SA mi n0 z0 (pc + 2) (L) (.ref (m_n M) :: st) (m_nw M 22 x.toNatClampNeg)) : WP p l e R s m args below meth c Q D cy B H0 SA mi n0 z0 (pc) (L) (.int x :: st) (M) := by
  intro H locs ls hL hR hl
  have hK := sn_K hG hB
  refine va_newaK hB.1 hB.2.1 (atype := .boolean) (hG.word w_aboolean rfl hB.2.2.2.2.1 args) rfl hd rfl hx0 rfl (Nat.le_trans (Nat.mul_le_mul_right _ hx1) (by decide)) hc1 hc2 hR.1 fun H' cA e1 z1 o1 hAr hNm => ?_
  have hcA : cA = cy 22 := by
    have h2 := (hK.2 2 _ rfl).2
    exact Option.some.inj (hNm.symm.trans h2)
  subst hcA
  have k2 := kk H' locs ls hL (hR.new (by omega) (by rw [z1, hR.1]) (fun q hq => o1 q (by rw [← hR.1]; exact hq)) (by
    unfold celA
    rw [nw_sh, if_neg (by show ¬ 22 < 13; decide), e1]
    congr 2
    funext j
    unfold arrF
    rw [nw_I, nw_J, nw_R]
    rfl)) hl
  have c1 : m_n (m_nw M 22 x.toNatClampNeg) - n0 = m_n M - n0 + 1 := by show m_n M + 1 - n0 = _; omega
  have c2 : m_z (m_nw M 22 x.toNatClampNeg) - z0 = m_z M - z0 + x.toNatClampNeg := by show m_z M + x.toNatClampNeg - z0 = _; omega
  rw [c1, c2] at k2
  exact k2
theorem sn_anewa (hG : GG s0 D cy) (hB : BB s0 p s m meth c mi) {i k : Nat} {x : Int32} (hk : k = 23 ∨ k = 24) (h19 : mC mi < 19) (hq : (i, k) ∈ nat (mC mi)) (hx0 : ¬ x < 0) (hx1 : x.toNatClampNeg ≤ 65536) (hn0 : n0 ≤ m_n M) (hz0 : z0 ≤ m_z M) (hc1 : m_n M - n0 + 1 ≤ R.cells) (hc2 : m_z M - z0 + x.toNatClampNeg ≤ R.slots) (hd : decode (mt mi).2.1 pc = .ok (.anewarray i, 3)) (kk : WP p l e R s m args below meth c Q D cy B H0 SA mi n0 z0 (pc + 3) (L) (.ref (m_n M) :: st) (m_nw M k x.toNatClampNeg)) : WP p l e R s m args below meth c Q D cy B H0 SA mi n0 z0 (pc) (L) (.int x :: st) (M) := by
  intro H locs ls hL hR hl
  have hK := sn_K hG hB
  have hov : Cond.arrayOver (.object (raN k)) ∈ lw_tbl := by rcases hk with h | h <;> subst h <;> first | exact w_oRule | exact w_oWall
  have htt : ∃ t : Nat, (tyC cy)[t]? = some (cy k, FieldType.object (raN k)) := by rcases hk with h | h <;> subst h <;> first | exact ⟨3, rfl⟩ | exact ⟨4, rfl⟩
  obtain ⟨t, htt⟩ := htt
  refine W.anew hB.1 hB.2.1 hB.2.2.2.1 (hG.word (naw_all (mC mi) h19 _ hq) rfl hB.2.2.2.2.1 args) (hG.word hov rfl hB.2.2.2.2.1 args) rfl hd rfl hx0 (by omega) hc1 hc2 fun cA kA comp f1 f2 f3 f4 => ?_
  generalize hH1 : H.push ({ cls := cA, slots := Array.replicate x.toNatClampNeg .null, vm := .none } : Cell) = H'
  have z1 : H'.size = H.size + 1 := by rw [← hH1, Array.size_push]
  have e1 : H'[H.size]? = some (arrV cA x.toNatClampNeg (fun _ => .null)) := by rw [← hH1, Array.getElem?_push_size, ← arrV_new]
  have o1 : ∀ q : Nat, q < H.size → H'[q]? = H[q]? := fun q hq => by rw [← hH1, Array.getElem?_push, if_neg (Nat.ne_of_lt hq)]
  have hcA : cA = cy k := by
    obtain ⟨kA2, comp2, g1, g2, g3, g4⟩ := (hK.2 t _ htt).2
    exact Option.some.inj (f1.symm.trans g4)
  subst hcA
  have k2 := kk H' locs ls hL (hR.new (by omega) z1 o1 (by
    unfold celA
    rw [nw_sh, if_neg (by show ¬ k < 13; omega), ← hR.1, e1]
    congr 2
    funext j
    unfold arrF
    rw [nw_I, nw_J, nw_R]
    rcases hk with rfl | rfl <;> rfl)) hl
  have c1 : m_n (m_nw M k x.toNatClampNeg) - n0 = m_n M - n0 + 1 := by show m_n M + 1 - n0 = _; omega
  have c2 : m_z (m_nw M k x.toNatClampNeg) - z0 = m_z M - z0 + x.toNatClampNeg := by show m_z M + x.toNatClampNeg - z0 = _; omega
  rw [c1, c2] at k2
  rw [hR.1]
  exact k2
theorem cat_sum (st : List Value) (f : Value → Value) : ((st.map f).map fun v => v.category).sum ≤ 2 * st.length := by
  induction st with
  | nil => simp
  | cons v st ih =>
    simp only [List.map_cons, List.sum_cons, List.length_cons]
    have : (f v).category ≤ 2 := by rcases lv_cat (f v) with h | h <;> omega
    omega
theorem cat_cS (st : List Value) (B : Nat) (SA : Nat → Nat) : ((st.map (cvV B SA)).map fun v => v.category).sum ≤ cS st := by
  induction st with
  | nil => simp
  | cons v st ih =>
    simp only [List.map_cons, List.sum_cons]
    have h2 : (cvV B SA v).category ≤ 2 := by rcases lv_cat (cvV B SA v) with h | h <;> omega
    cases v with
    | int x => have : (cvV B SA (.int x)).category = 1 := rfl; simp only [cS]; omega
    | ref x => have : (cvV B SA (.ref x)).category = 1 := rfl; simp only [cS]; omega
    | float x => have : (cvV B SA (.float x)).category = 1 := rfl; simp only [cS]; omega
    | _ => simp only [cS]; omega
theorem cat_ok {st : List Value} {n : Nat} (B : Nat) (SA : Nat → Nat) (h : st.length ≤ 4 ∨ (n < 1000 ∧ cS st ≤ 8)) : ((st.map (cvV B SA)).map fun v => v.category).sum ≤ 8 := by
  rcases h with h | h
  · have := cat_sum st (cvV B SA); omega
  · have := cat_cS st B SA; omega
theorem sn_oinit (hG : GG s0 D cy) (hB : BB s0 p s m meth c mi) {i o : Nat} (h19 : mC mi < 19) (hq : i ∈ oit (mC mi)) (hs : st.length ≤ 4) (hf : 1 ≤ R.frames) (hlc : 100 ≤ R.locals) (hd : decode (mt mi).2.1 pc = .ok (.invokespecial i, 3)) (kk : WP p l e R s m args below meth c Q D cy B H0 SA mi n0 z0 (pc + 3) (L) (st) (M)) : WP p l e R s m args below meth c Q D cy B H0 SA mi n0 z0 (pc) (L) (.ref o :: st) (M) := by
  intro H locs ls hL hR hl
  refine W.objInit hB.1 hB.2.1 hB.2.2.2.1 (hG.word (oiw_all (mC mi) h19 _ hq) rfl hB.2.2.2.2.1 args) (hG.word w_oi1 rfl hB.2.2.2.2.1 args) (hG.word w_oi2 rfl hB.2.2.2.2.1 args) rfl (by rw [hB.2.2.1]; exact hL.2.1) rfl hd hf ?_ (kk H locs ls hL hR hl)
  have := cat_sum st (cvV B SA)
  show 2 * 0 + _ + 12 ≤ _
  omega
theorem sn_mmax (hG : GG s0 D cy) (hB : BB s0 p s m meth c mi) {i : Nat} {x y : Int32} (h19 : mC mi < 19) (hq : (i, 4) ∈ mmt (mC mi)) (hs : st.length ≤ 4) (hf : 1 ≤ R.frames) (hlc : 100 ≤ R.locals) (hc1 : m_n M - n0 ≤ R.cells) (hc2 : m_z M - z0 ≤ R.slots) (hd : decode (mt mi).2.1 pc = .ok (.invokestatic i, 3)) (kk : WP p l e R s m args below meth c Q D cy B H0 SA mi n0 z0 (pc + 3) (L) (.int (if x < y then y else x) :: st) (M)) : WP p l e R s m args below meth c Q D cy B H0 SA mi n0 z0 (pc) (L) (.int y :: .int x :: st) (M) := by
  intro H locs ls hL hR hl
  have := cat_sum st (cvV B SA)
  exact va_mmax hB.1 hB.2.1 (by rw [hB.2.2.1]; exact hL.2.1.symm) hB.2.2.2.1 (hG.word (mmw_all (mC mi) h19 _ hq) rfl hB.2.2.2.2.1 args) (hG.word w_mmax1 rfl hB.2.2.2.2.1 args) (hG.word w_m3 rfl hB.2.2.2.2.1 args) (hG.word w_mmax2 rfl hB.2.2.2.2.1 args) hf (by omega) hc1 hc2 hd (kk H locs ls hL hR hl)
theorem sn_mmin (hG : GG s0 D cy) (hB : BB s0 p s m meth c mi) {i : Nat} {x y : Int32} (h19 : mC mi < 19) (hq : (i, 5) ∈ mmt (mC mi)) (hs : st.length ≤ 4) (hf : 1 ≤ R.frames) (hlc : 100 ≤ R.locals) (hc1 : m_n M - n0 ≤ R.cells) (hc2 : m_z M - z0 ≤ R.slots) (hd : decode (mt mi).2.1 pc = .ok (.invokestatic i, 3)) (kk : WP p l e R s m args below meth c Q D cy B H0 SA mi n0 z0 (pc + 3) (L) (.int (if y < x then y else x) :: st) (M)) : WP p l e R s m args below meth c Q D cy B H0 SA mi n0 z0 (pc) (L) (.int y :: .int x :: st) (M) := by
  intro H locs ls hL hR hl
  have := cat_sum st (cvV B SA)
  exact va_mmin hB.1 hB.2.1 (by rw [hB.2.2.1]; exact hL.2.1.symm) hB.2.2.2.1 (hG.word (mmw_all (mC mi) h19 _ hq) rfl hB.2.2.2.2.1 args) (hG.word w_mmin1 rfl hB.2.2.2.2.1 args) (hG.word w_m3 rfl hB.2.2.2.2.1 args) (hG.word w_mmin2 rfl hB.2.2.2.2.1 args) hf (by omega) hc1 hc2 hd (kk H locs ls hL hR hl)
end HEAP2
