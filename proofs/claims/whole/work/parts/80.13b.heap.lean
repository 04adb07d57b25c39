/-! ===== instructions that reach the heap ===== -/
theorem rng_eq {α : Type} {N : Nat} {f g : Nat → α} (h : (List.range N).map f = (List.range N).map g) : ∀ k, k < N → f k = g k := by
  intro k hk
  have h1 := congrArg (fun l => l[k]?) h
  simpa [List.getElem?_map, List.getElem?_range hk] using h1
theorem clO_get : ∀ ci, ci < 13 → vwCl[ci]? = some (clO ci) := by
  intro ci h
  have h1 : ci < vwCl.length := h
  unfold clO
  rw [List.getD_eq_getElem?_getD, List.getElem?_eq_getElem h1]
  rfl
theorem dcl_0 : ∀ k, k < (clO 0).2.2 → ((clO 0).2.1 k).1 = (clO 0).1 := rng_eq rfl
theorem dfv_0 : ∀ k, k < (clO 0).2.2 → defaultValue (tyO 0 k) = (match ftO 0 k with | 1 => .long 0 | 2 => .null | _ => .int 0 : Value) := by decide +kernel
theorem dcl_1 : ∀ k, k < (clO 1).2.2 → ((clO 1).2.1 k).1 = (clO 1).1 := rng_eq rfl
theorem dfv_1 : ∀ k, k < (clO 1).2.2 → defaultValue (tyO 1 k) = (match ftO 1 k with | 1 => .long 0 | 2 => .null | _ => .int 0 : Value) := by decide +kernel
theorem dcl_2 : ∀ k, k < (clO 2).2.2 → ((clO 2).2.1 k).1 = (clO 2).1 := rng_eq rfl
theorem dfv_2 : ∀ k, k < (clO 2).2.2 → defaultValue (tyO 2 k) = (match ftO 2 k with | 1 => .long 0 | 2 => .null | _ => .int 0 : Value) := by decide +kernel
theorem dcl_3 : ∀ k, k < (clO 3).2.2 → ((clO 3).2.1 k).1 = (clO 3).1 := rng_eq rfl
theorem dfv_3 : ∀ k, k < (clO 3).2.2 → defaultValue (tyO 3 k) = (match ftO 3 k with | 1 => .long 0 | 2 => .null | _ => .int 0 : Value) := by decide +kernel
theorem dcl_4 : ∀ k, k < (clO 4).2.2 → ((clO 4).2.1 k).1 = (clO 4).1 := rng_eq rfl
theorem dfv_4 : ∀ k, k < (clO 4).2.2 → defaultValue (tyO 4 k) = (match ftO 4 k with | 1 => .long 0 | 2 => .null | _ => .int 0 : Value) := by decide +kernel
theorem dcl_5 : ∀ k, k < (clO 5).2.2 → ((clO 5).2.1 k).1 = (clO 5).1 := rng_eq rfl
theorem dfv_5 : ∀ k, k < (clO 5).2.2 → defaultValue (tyO 5 k) = (match ftO 5 k with | 1 => .long 0 | 2 => .null | _ => .int 0 : Value) := by decide +kernel
theorem dcl_6 : ∀ k, k < (clO 6).2.2 → ((clO 6).2.1 k).1 = (clO 6).1 := rng_eq rfl
theorem dfv_6 : ∀ k, k < (clO 6).2.2 → defaultValue (tyO 6 k) = (match ftO 6 k with | 1 => .long 0 | 2 => .null | _ => .int 0 : Value) := by decide +kernel
theorem dcl_7 : ∀ k, k < (clO 7).2.2 → ((clO 7).2.1 k).1 = (clO 7).1 := rng_eq rfl
theorem dfv_7 : ∀ k, k < (clO 7).2.2 → defaultValue (tyO 7 k) = (match ftO 7 k with | 1 => .long 0 | 2 => .null | _ => .int 0 : Value) := by decide +kernel
theorem dcl_8 : ∀ k, k < (clO 8).2.2 → ((clO 8).2.1 k).1 = (clO 8).1 := rng_eq rfl
theorem dfv_8 : ∀ k, k < (clO 8).2.2 → defaultValue (tyO 8 k) = (match ftO 8 k with | 1 => .long 0 | 2 => .null | _ => .int 0 : Value) := by decide +kernel
theorem dcl_9 : ∀ k, k < (clO 9).2.2 → ((clO 9).2.1 k).1 = (clO 9).1 := rng_eq rfl
theorem dfv_9 : ∀ k, k < (clO 9).2.2 → defaultValue (tyO 9 k) = (match ftO 9 k with | 1 => .long 0 | 2 => .null | _ => .int 0 : Value) := by decide +kernel
theorem dcl_10 : ∀ k, k < (clO 10).2.2 → ((clO 10).2.1 k).1 = (clO 10).1 := rng_eq rfl
theorem dfv_10 : ∀ k, k < (clO 10).2.2 → defaultValue (tyO 10 k) = (match ftO 10 k with | 1 => .long 0 | 2 => .null | _ => .int 0 : Value) := by decide +kernel
theorem dcl_11 : ∀ k, k < (clO 11).2.2 → ((clO 11).2.1 k).1 = (clO 11).1 := rng_eq rfl
theorem dfv_11 : ∀ k, k < (clO 11).2.2 → defaultValue (tyO 11 k) = (match ftO 11 k with | 1 => .long 0 | 2 => .null | _ => .int 0 : Value) := by decide +kernel
theorem dcl_12 : ∀ k, k < (clO 12).2.2 → ((clO 12).2.1 k).1 = (clO 12).1 := rng_eq rfl
theorem dfv_12 : ∀ k, k < (clO 12).2.2 → defaultValue (tyO 12 k) = (match ftO 12 k with | 1 => .long 0 | 2 => .null | _ => .int 0 : Value) := by decide +kernel
theorem decl_all : ∀ ci, ci < 13 → ∀ k, k < (clO ci).2.2 → ((clO ci).2.1 k).1 = (clO ci).1
  | 0, _ => dcl_0
  | 1, _ => dcl_1
  | 2, _ => dcl_2
  | 3, _ => dcl_3
  | 4, _ => dcl_4
  | 5, _ => dcl_5
  | 6, _ => dcl_6
  | 7, _ => dcl_7
  | 8, _ => dcl_8
  | 9, _ => dcl_9
  | 10, _ => dcl_10
  | 11, _ => dcl_11
  | 12, _ => dcl_12
  | k + 13, h => absurd h (by omega)
theorem dfv_all : ∀ ci, ci < 13 → ∀ k, k < (clO ci).2.2 → defaultValue (tyO ci k) = (match ftO ci k with | 1 => .long 0 | 2 => .null | _ => .int 0 : Value)
  | 0, _ => dfv_0
  | 1, _ => dfv_1
  | 2, _ => dfv_2
  | 3, _ => dfv_3
  | 4, _ => dfv_4
  | 5, _ => dfv_5
  | 6, _ => dfv_6
  | 7, _ => dfv_7
  | 8, _ => dfv_8
  | 9, _ => dfv_9
  | 10, _ => dfv_10
  | 11, _ => dfv_11
  | 12, _ => dfv_12
  | k + 13, h => absurd h (by omega)
theorem lay_gw {C : String} {T : u_T} {N : Nat} : ∀ w ∈ u_ws C T N, gw w = true := by
  intro w h
  obtain ⟨k, -, rfl⟩ := List.mem_map.mp h
  unfold u_lay
  split <;> rfl
theorem inF_mem {c i ci k : Nat} (h : inF c i ci k = true) : ∃ nst, (i, ci, k, nst) ∈ flt c := by
  unfold inF at h
  obtain ⟨q, hq, h1⟩ := List.any_eq_true.mp h
  simp only [Bool.and_eq_true, decide_eq_true_eq] at h1
  obtain ⟨⟨e1, e2⟩, e3⟩ := h1
  obtain ⟨a, b, c', d⟩ := q
  simp only at e1 e2 e3
  subst e1; subst e2; subst e3
  exact ⟨d, hq⟩
section HEAP
variable {p : Program} {l : Launch} {e : Env} {R : Room} {s s0 : State} {m : MethodId} {args : Array Value} {below : List Frame} {meth : Method} {c : Code} {Q : State → Prop} {D : va_G} {cy : Nat → ClassId} {B : Nat} {H0 : Heap} {SA : Nat → Nat} {mi n0 z0 : Nat} {pc : Nat} {L st : List Value} {M : Mem}
theorem sn_K (hG : GG s0 D cy) (hB : BB s0 p s m meth c mi) : va_K D vwCl (tyC cy) s := va_K.moved hB.2.2.2.2.1.alike hG.2
theorem sn_lay (hG : GG s0 D cy) (hB : BB s0 p s m meth c mi) {ci : Nat} (hci : ci < 13) : ∀ w ∈ u_ws (clO ci).1 (clO ci).2.1 (clO ci).2.2, w.before args s = true := fun w hw => hG.word (lay_all ci hci w hw) (lay_gw w hw) hB.2.2.2.2.1 args
theorem sn_get (hG : GG s0 D cy) (hB : BB s0 p s m meth c mi) {i ci k o : Nat} {v : Value} (hci : ci < 13) (hk : k < (clO ci).2.2) (hin : inF (mC mi) i ci k = true) (h19 : mC mi < 19) (hsh : (m_sh M o).1 = ci) (hv : cvV B SA v = fldV B M o ci k) (hd : decode (mt mi).2.1 pc = .ok (.getfield i, 3)) (kk : WP p l e R s m args below meth c Q D cy B H0 SA mi n0 z0 (pc + 3) (L) (v :: st) (M)) : WP p l e R s m args below meth c Q D cy B H0 SA mi n0 z0 (pc) (L) (.ref o :: st) (M) := by
  intro H locs ls hL hR hl
  have hK := sn_K hG hB
  obtain ⟨cell, q1, q2, q3, q4⟩ := hR.obj hsh hci
  obtain ⟨hS, hfc, kC, hkC, hkind⟩ := hK.1 ci _ (clO_get ci hci)
  obtain ⟨cf, kf, fi, f, hi, hsl⟩ := hS k hk
  have hlay := sn_lay (args := args) hG hB hci
  have hst := (u_facts hfc hkC (u_lays hlay (fun w h => h) hk) hi).1
  have hsl2 : cell.slots[f.slot]? = some (cvV B SA v) := by rw [hsl, q4 k hk, hv]
  rw [decl_all ci hci k hk] at hi
  obtain ⟨nst, hq⟩ := inF_mem hin
  have hw := fw_all (mC mi) h19 _ hq
  have k2 := kk H locs ls hL hR hl
  cases nst with
  | zero => exact W.getf hB.1 hB.2.1 hB.2.2.2.1 (hG.word hw rfl hB.2.2.2.2.1 args) hi hst q1 (by rw [q3]; exact fun h => by cases h) hsl2 rfl rfl hd k2
  | succ n => exact va_Wgetf hB.1 hB.2.1 hB.2.2.2.1 (hG.word hw rfl hB.2.2.2.2.1 args) hi hst q1 (by rw [q3]; exact fun h => by cases h) hsl2 rfl rfl hd k2
theorem sn_put (hG : GG s0 D cy) (hB : BB s0 p s m meth c mi) {i ci k o : Nat} {v : Value} {M' : Mem} (hci : ci < 13) (hk : k < (clO ci).2.2) (hin : inF (mC mi) i ci k = true) (h19 : mC mi < 19) (hfin : ((clO ci).2.1 k).2.2.2 = false ∨ (meth.name = "<init>" ∧ ((clO ci).2.1 k).1 = clsN (mC mi) ∧ (i, ci, k, 0) ∈ flt (mC mi))) (hsh : (m_sh M o).1 = ci)
    (hn : narrow (tyO ci k) (cvV B SA v) = cvV B SA v) (hfit : fits (tyO ci k) (cvV B SA v) = true) (e1 : m_n M' = m_n M) (e2 : m_z M' = m_z M) (e3 : m_sh M' = m_sh M) (eI : ∀ b, b ≠ o → m_I M' b = m_I M b) (eJ : ∀ b, b ≠ o → m_J M' b = m_J M b) (eR : ∀ b, b ≠ o → m_R M' b = m_R M b)
    (hval : ∀ j, j < (clO ci).2.2 → updV (fldV B M o ci) k (cvV B SA v) j = fldV B M' o ci j) (hd : decode (mt mi).2.1 pc = .ok (.putfield i, 3)) (kk : WP p l e R s m args below meth c Q D cy B H0 SA mi n0 z0 (pc + 3) (L) (st) (M')) : WP p l e R s m args below meth c Q D cy B H0 SA mi n0 z0 (pc) (L) (v :: .ref o :: st) (M) := by
  intro H locs ls hL hR hl
  have hK := sn_K hG hB
  obtain ⟨cell, q1, q2, q3, q4⟩ := hR.obj hsh hci
  have hKn := hK.1 ci _ (clO_get ci hci)
  obtain ⟨hS, hfc, kC, hkC, hkind⟩ := hKn
  obtain ⟨cf, kf, fi, f, hi, hsl⟩ := hS k hk
  have hlay := sn_lay (args := args) hG hB hci
  have hst := (u_facts hfc hkC (u_lays hlay (fun w h => h) hk) hi).1
  have hap := va_apart (own := clsN (mC mi)) hlay (fun w h => h) (tyO ci) (ty_all ci hci) (nm_all ci hci) hK (clO_get ci hci)
  have hlt : f.slot < cell.slots.size := by rw [hsl]; exact k2_hasslot (q4 k hk)
  have hkey : ∀ (H' : Heap), H'[B + o]? = some (cell.setSlot f.slot (cvV B SA v)) → H'.size = H.size → (∀ q, q ≠ B + o → H'[q]? = H[q]?) → W p l e R s m args below meth c H' (locs ++ [⟨B + o, f.slot⟩]) (m_n M - n0) (m_z M - z0) Q (F0 m (pc + 3) ls (st.map (cvV B SA))) := by
    intro H' g1 g2 g3
    rw [hsl] at g1
    have hc : celA D cy B M' o H' := by
      unfold celA
      rw [e3, hsh, if_pos hci]
      exact t_OB.to ⟨_, g1, q2, q3, t_set q4 hap hk _⟩ hval
    have k2 := kk H' (locs ++ [⟨B + o, f.slot⟩]) ls hL (hR.put (hR.lt hsh (by omega)) g2 g3 hc e1 e3 eI eJ eR) (fun q hq => by
      rcases List.mem_append.mp hq with h | h
      · exact hl q h
      · rw [List.mem_singleton.mp h]; exact Nat.le_add_right _ _)
    rw [e1, e2] at k2
    exact k2
  have hi2 := hi
  rw [decl_all ci hci k hk] at hi2
  have hlk := hlay _ (u_in_lay hk)
  unfold u_lay at hlk
  rcases hfin with hfin | ⟨hin2, hdc, hq⟩
  · rw [if_neg (by rw [hfin]; decide)] at hlk
    have h6 := u_store hfc hkC hkind hlk hi (ty_all ci hci k hk) hn hfit
    obtain ⟨nst, hq⟩ := inF_mem hin
    have hw := fw_all (mC mi) h19 _ hq
    cases nst with
    | zero => exact W.putK hB.1 hB.2.1 (f := f) ⟨hB.2.2.2.1, hG.word hw rfl hB.2.2.2.2.1 args, ⟨_, _, _, hi2⟩, hst⟩ (by rw [q2]; exact h6) q1 q3 hlt rfl rfl hd hkey
    | succ n => exact va_WputK hB.1 hB.2.1 (f := f) hB.2.2.2.1 (hG.word hw rfl hB.2.2.2.2.1 args) hi2 hst (by rw [q2]; exact h6) q1 q3 hlt rfl rfl hd hkey
  · by_cases hf : ((clO ci).2.1 k).2.2.2 = false
    · rw [if_neg (by rw [hf]; decide)] at hlk
      have h6 := u_store hfc hkC hkind hlk hi (ty_all ci hci k hk) hn hfit
      have hw := fw_all (mC mi) h19 _ hq
      exact W.putK hB.1 hB.2.1 (f := f) ⟨hB.2.2.2.1, hG.word hw rfl hB.2.2.2.2.1 args, ⟨_, _, _, hi2⟩, hst⟩ (by rw [q2]; exact h6) q1 q3 hlt rfl rfl hd hkey
    · rw [if_pos (by simpa using hf)] at hlk
      have hcf : m.cls = cf := by
        obtain ⟨_, _, c', _, _, _, -, -, hf', -, -, -, hown2, -⟩ := Cond.laysFinal_spec hlk
        have e1 : c' = cf := by have := hi.symm.trans hf'; simp at this; exact this.1.symm
        rw [hdc] at hown2
        rw [← e1]; exact Option.some.inj (hB.2.2.2.1.symm.trans hown2)
      have h6 := u_fits hfc hkC hkind (Or.inr hlk) hi (ty_all ci hci k hk) hn hfit
      have hw := fw_all (mC mi) h19 _ hq
      exact W.putFinK hB.1 hB.2.1 hB.2.2.2.1 (hG.word hw rfl hB.2.2.2.2.1 args) hi2 hst hcf hin2 (by rw [q2]; exact h6) q1 q3 hlt rfl rfl hd hkey
theorem sn_iaload (hG : GG s0 D cy) (hB : BB s0 p s m meth c mi) {o : Nat} {i : Int32} (hsh : (m_sh M o).1 = 20) (hin : inb i (m_sh M o).2 = true) (hd : decode (mt mi).2.1 pc = .ok (.iaload, 1)) (kk : WP p l e R s m args below meth c Q D cy B H0 SA mi n0 z0 (pc + 1) (L) (.int (m_I M o i.toNatClampNeg) :: st) (M)) : WP p l e R s m args below meth c Q D cy B H0 SA mi n0 z0 (pc) (L) (.int i :: .ref o :: st) (M) := by
  intro H locs ls hL hR hl
  have hK := sn_K hG hB
  have ha := hR.arr hsh (by omega) (by omega)
  exact W.iald hB.1 hB.2.1 ha ((hK.2 0 _ rfl).1 _ _) (fun q => by cases q) (by rw [arrV_size]; exact inb_vp hin) (arrV_read _ _ (inb_in hin).2) rfl rfl hd (kk H locs ls hL hR hl)
theorem sn_laload (hG : GG s0 D cy) (hB : BB s0 p s m meth c mi) {o : Nat} {i : Int32} (hsh : (m_sh M o).1 = 21) (hin : inb i (m_sh M o).2 = true) (hd : decode (mt mi).2.1 pc = .ok (.laload, 1)) (kk : WP p l e R s m args below meth c Q D cy B H0 SA mi n0 z0 (pc + 1) (L) (.long (m_J M o i.toNatClampNeg) :: st) (M)) : WP p l e R s m args below meth c Q D cy B H0 SA mi n0 z0 (pc) (L) (.int i :: .ref o :: st) (M) := by
  intro H locs ls hL hR hl
  have hK := sn_K hG hB
  have ha := hR.arr hsh (by omega) (by omega)
  exact W.lald hB.1 hB.2.1 ha ((hK.2 1 _ rfl).1 _ _) (fun q => by cases q) (by rw [arrV_size]; exact inb_vp hin) (arrV_read _ _ (inb_in hin).2) rfl rfl hd (kk H locs ls hL hR hl)
theorem sn_baload (hG : GG s0 D cy) (hB : BB s0 p s m meth c mi) {o : Nat} {i : Int32} (hsh : (m_sh M o).1 = 22) (hin : inb i (m_sh M o).2 = true) (hd : decode (mt mi).2.1 pc = .ok (.baload, 1)) (kk : WP p l e R s m args below meth c Q D cy B H0 SA mi n0 z0 (pc + 1) (L) (.int (m_I M o i.toNatClampNeg) :: st) (M)) : WP p l e R s m args below meth c Q D cy B H0 SA mi n0 z0 (pc) (L) (.int i :: .ref o :: st) (M) := by
  intro H locs ls hL hR hl
  have hK := sn_K hG hB
  have ha := hR.arr hsh (by omega) (by omega)
  exact W.zald hB.1 hB.2.1 ha ((hK.2 2 _ rfl).1 _ _) (fun q => by cases q) (by rw [arrV_size]; exact inb_vp hin) (arrV_read _ _ (inb_in hin).2) rfl rfl hd (kk H locs ls hL hR hl)
end HEAP
