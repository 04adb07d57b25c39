/-! ===== indexOf; the strings' methods at a call of the abstract machine ===== -/
theorem ln_pos : ∀ i, i < 22 → 0 < lenS.getD i 0 := by decide +kernel
theorem sm_ok : ∀ i, i < 22 → ∀ x ∈ strT i, x < 128 := by decide +kernel
theorem fnd_out {x : Int32} (h : x < 0 ∨ 255 < x) : ∀ (t : List Nat) (k : Nat), (∀ z ∈ t, z < 128) → fnd x t k = -1 := by
  intro t
  induction t with
  | nil => intro k _; rfl
  | cons z t ih =>
    intro k hz
    have h1 := hz z List.mem_cons_self
    unfold fnd
    rw [if_neg]
    · exact ih (k + 1) (fun q hq => hz q (List.mem_cons_of_mem _ hq))
    · intro e
      rw [e] at h
      rcases h with h | h
      · exact nI_pos (by omega) h
      · exact nI_nlt (a := 255) (b := z) (by omega) (by omega) h
section STR4
variable {l : Launch} {s0 : State} {D : va_G} {cy : Nat → ClassId} {adK adV : Nat → Nat}
theorem sp_l1ix (hG : GG s0 D cy) (hT : ST s0 adK adV) {i : Nat} (hi : i < 22) (x : Int32) : SP l s0 1 yJ1_indexOf_4cfef cJ1_indexOf_4cfef 4 (some .int) [.ref (adV i), .int x, .int 0, .int (nI (lenS.getD i 0))] (some (.int (fnd x (strT i) 0))) := by
  refine SP.of (by decide +kernel) (Nat.le_of_ble_eq_true rfl) ?_
  intro p e s m below meth c ls hB hl
  have hE := hB.wS hT
  have hl2 : lv_has ls 4 [(0, .ref (adV i)), (1, .int x), (2, .int 0), (3, .int (nI (lenS.getD i 0)))] := hl
  have hw := hB.2.2.2.2.2.2.1
  obtain ⟨hb1, hb2, -⟩ := ln_ok i hi
  have hpos := ln_pos i hi
  refine lv_iload_n hB.1 hB.2.1 dJ1_indexOf_4cfef_0 rfl (lv_at hl2 1 rfl) ?_
  refine sp_S (n := 1) (As := [.int x]) (rest := []) hG hB (sp_canEnc x) (by decide +kernel) sl_J1_88 sc_J1_canEncode_9a6ad si_J1_canEncode_9a6ad ss_J1_canEncode_9a6ad (by decide +kernel) rfl hl.1 (Nat.le_of_ble_eq_true rfl) (by decide) (by decide) (by decide) dJ1_indexOf_4cfef_1 (fun L hLl => ?_)
  have hLl := lc (locs := []) (fun q h => by cases h) hLl
  by_cases hx : x < 0 ∨ 255 < x
  · rw [if_pos hx, fnd_out hx _ _ (sm_ok i hi)]
    refine lv_if_ne hB.1 hB.2.1 dJ1_indexOf_4cfef_4 (tgt := 9) (by decide) (fun h => absurd rfl h) (fun _ => ?_)
    refine lv_iconst (v := -1) hB.1 hB.2.1 dJ1_indexOf_4cfef_7 (by decide) ?_
    exact W.iret hB.1 hB.2.1 hB.2.2.2.2.1 (fun t ht _ => ⟨rfl, ht⟩) hLl dJ1_indexOf_4cfef_8 (hlocks := hB.2.2.2.2.2.1)
  · rw [if_neg hx]
    have h0 : ¬ x < 0 := fun q => hx (Or.inl q)
    have h1 : ¬ 255 < x := fun q => hx (Or.inr q)
    obtain ⟨n, hn, rfl⟩ := nI_of h0
    have h256 : n < 256 := by
      rcases Nat.lt_or_ge n 256 with q | q
      · exact q
      · exact absurd (nI_lt (a := 255) (b := n) (by omega) hn) h1
    refine lv_if_ne hB.1 hB.2.1 dJ1_indexOf_4cfef_4 (tgt := 9) (by decide) (fun _ => ?_) (fun h => absurd h (by decide))
    refine lv_iload_n hB.1 hB.2.1 dJ1_indexOf_4cfef_9 rfl (lv_at hl2 2 rfl) ?_
    refine lv_iconst (v := 0) hB.1 hB.2.1 dJ1_indexOf_4cfef_10 (by decide) ?_
    refine va_mmax hB.1 hB.2.1 (by rw [hB.2.2.1]; exact hl.1.symm) hB.2.2.2.1 (hB.wd hG sl_J1_92 rfl) (hB.wd hG w_mmax1 rfl) (hB.wd hG w_m3 rfl) (hB.wd hG w_mmax2 rfl) (by decide) (by decide) (by decide) (by decide) dJ1_indexOf_4cfef_11 ?_
    rw [ite_self]
    refine lv_istore_n (lv' := [(2, .int 0), (0, .ref (adV i)), (1, .int (nI n)), (3, .int (nI (lenS.getD i 0)))]) hB.1 hB.2.1 dJ1_indexOf_4cfef_14 rfl hl2 (by decide) rfl (fun ls1 hl3 => ?_)
    refine lv_iload_n hB.1 hB.2.1 dJ1_indexOf_4cfef_15 rfl (lv_at hl3 3 rfl) ?_
    refine lv_aload_n hB.1 hB.2.1 dJ1_indexOf_4cfef_16 rfl (lv_at hl3 1 rfl) ?_
    refine va_tlen (v := nI (lenS.getD i 0)) hB.1 hB.2.1 (hE.1 i hi).2.2.2 (va_SL hLl) rfl dJ1_indexOf_4cfef_17 ?_
    refine va_mmin hB.1 hB.2.1 (by rw [hB.2.2.1]; exact hl3.1.symm) hB.2.2.2.1 (hB.wd hG sl_J1_38 rfl) (hB.wd hG w_mmin1 rfl) (hB.wd hG w_m3 rfl) (hB.wd hG w_mmin2 rfl) (by decide) (by decide) (by decide) (by decide) dJ1_indexOf_4cfef_18 ?_
    rw [ite_self]
    refine lv_istore_n (lv' := [(3, .int (nI (lenS.getD i 0))), (2, .int 0), (0, .ref (adV i)), (1, .int (nI n))]) hB.1 hB.2.1 dJ1_indexOf_4cfef_21 rfl hl3 (by decide) rfl (fun ls2 hl4 => ?_)
    refine lv_iload_n hB.1 hB.2.1 dJ1_indexOf_4cfef_22 rfl (lv_at hl4 1 rfl) ?_
    refine lv_iload_n hB.1 hB.2.1 dJ1_indexOf_4cfef_23 rfl (lv_at hl4 0 rfl) ?_
    refine lv_icmp_lt hB.1 hB.2.1 dJ1_indexOf_4cfef_24 (tgt := 29) (by decide) (fun _ => ?_) (fun h => absurd (nI_lt (a := 0) hpos (by omega)) h)
    refine lv_aload_n hB.1 hB.2.1 dJ1_indexOf_4cfef_29 rfl (lv_at hl4 2 rfl) ?_
    refine lv_iload_n hB.1 hB.2.1 dJ1_indexOf_4cfef_30 rfl (lv_at hl4 3 rfl) ?_
    refine lv_iload_n hB.1 hB.2.1 dJ1_indexOf_4cfef_31 rfl (lv_at hl4 1 rfl) ?_
    refine lv_iload_n hB.1 hB.2.1 dJ1_indexOf_4cfef_32 rfl (lv_at hl4 0 rfl) ?_
    refine sp_S (n := 4) (As := [.ref (adV i), .int (nI n), .int 0, .int (nI (lenS.getD i 0))]) (rest := []) hG hB (sp_ixc hT hi h256) (by decide +kernel) sl_J1_95 sc_J1_indexOfChar_4cfef si_J1_indexOfChar_4cfef ss_J1_indexOfChar_4cfef (by decide +kernel) rfl hl4.1 (Nat.le_of_ble_eq_true rfl) (by decide) (by decide) (by decide) dJ1_indexOf_4cfef_33 (fun L2 hLl2 => ?_)
    exact W.iret hB.1 hB.2.1 hB.2.2.2.2.1 (fun t ht _ => ⟨rfl, ht⟩) (lc hLl hLl2) dJ1_indexOf_4cfef_36 (hlocks := hB.2.2.2.2.2.1)
theorem sp_ix2 (hG : GG s0 D cy) (hT : ST s0 adK adV) {i : Nat} (hi : i < 22) (x : Int32) : SP l s0 2 yJ0_indexOf_7cf53 cJ0_indexOf_7cf53 3 (some .int) [.ref (adK i), .int x, .int 0] (some (.int (fnd x (strT i) 0))) := by
  refine SP.of (by decide +kernel) (Nat.le_of_ble_eq_true rfl) ?_
  intro p e s m below meth c ls hB hl
  have hE := hB.wS hT
  have hl2 : lv_has ls 3 [(0, .ref (adK i)), (1, .int x), (2, .int 0)] := hl
  refine lv_aload_n hB.1 hB.2.1 dJ0_indexOf_7cf53_0 rfl (lv_at hl2 0 rfl) ?_
  refine sp_V (n := 0) (As := []) (rest := []) hG hT hB hi (sp_isLatin1 hG hT hi) rfl sl_J0_492 sc_J0_isLatin1_aae02 si_J0_isLatin1_aae02 ss_J0_isLatin1_aae02 sv_J0_isLatin1_aae02 (by decide +kernel) rfl hl.1 (Nat.le_of_ble_eq_true rfl) (by decide) (by decide) (by decide) dJ0_indexOf_7cf53_1 (fun L hLl => ?_)
  have hLl := lc (locs := []) (fun q h => by cases h) hLl
  refine lv_if_eq hB.1 hB.2.1 dJ0_indexOf_7cf53_4 (tgt := 23) (by decide) (fun h => absurd h (by decide)) (fun _ => ?_)
  refine lv_aload_n hB.1 hB.2.1 dJ0_indexOf_7cf53_7 rfl (lv_at hl2 0 rfl) ?_
  refine vk_getf hB.1 hB.2.1 (hE.1 i hi).2.2.1 (va_SL hLl) hB.2.2.2.1 (hB.wd hG sf_J0_9 rfl) (fun _ h => h) dJ0_indexOf_7cf53_8 ?_
  refine lv_iload_n hB.1 hB.2.1 dJ0_indexOf_7cf53_11 rfl (lv_at hl2 1 rfl) ?_
  refine lv_iload_n hB.1 hB.2.1 dJ0_indexOf_7cf53_12 rfl (lv_at hl2 2 rfl) ?_
  refine lv_aload_n hB.1 hB.2.1 dJ0_indexOf_7cf53_13 rfl (lv_at hl2 0 rfl) ?_
  refine sp_V (n := 0) (As := []) (rest := [.int 0, .int x, .ref (adV i)]) hG hT hB hi (sp_length hG hT hi) rfl sl_J0_505 sc_J0_length_8abf5 si_J0_length_8abf5 ss_J0_length_8abf5 sv_J0_length_8abf5 (by decide +kernel) rfl hl.1 (Nat.le_of_ble_eq_true rfl) (by decide) (by decide) (by decide) dJ0_indexOf_7cf53_14 (fun L2 hLl2 => ?_)
  have hLl := lc hLl hLl2
  refine sp_S (n := 4) (As := [.ref (adV i), .int x, .int 0, .int (nI (lenS.getD i 0))]) (rest := []) hG hB (sp_l1ix hG hT hi x) (by decide +kernel) sl_J0_637 sc_J1_indexOf_4cfef si_J1_indexOf_4cfef ss_J1_indexOf_4cfef (by decide +kernel) rfl hl.1 (Nat.le_of_ble_eq_true rfl) (by decide) (by decide) (by decide) dJ0_indexOf_7cf53_17 (fun L3 hLl3 => ?_)
  refine lv_goto hB.1 hB.2.1 dJ0_indexOf_7cf53_20 (tgt := 36) (by decide) ?_
  exact W.iret hB.1 hB.2.1 hB.2.2.2.2.1 (fun t ht _ => ⟨rfl, ht⟩) (lc hLl hLl3) dJ0_indexOf_7cf53_36 (hlocks := hB.2.2.2.2.2.1)
theorem sp_ix1 (hG : GG s0 D cy) (hT : ST s0 adK adV) {i : Nat} (hi : i < 22) (x : Int32) : SP l s0 3 yJ0_indexOf_0f7a4 cJ0_indexOf_0f7a4 2 (some .int) [.ref (adK i), .int x] (some (.int (fnd x (strT i) 0))) := by
  refine SP.of (by decide +kernel) (Nat.le_of_ble_eq_true rfl) ?_
  intro p e s m below meth c ls hB hl
  have hl2 : lv_has ls 2 [(0, .ref (adK i)), (1, .int x)] := hl
  refine lv_aload_n hB.1 hB.2.1 dJ0_indexOf_0f7a4_0 rfl (lv_at hl2 0 rfl) ?_
  refine lv_iload_n hB.1 hB.2.1 dJ0_indexOf_0f7a4_1 rfl (lv_at hl2 1 rfl) ?_
  refine lv_iconst (v := 0) hB.1 hB.2.1 dJ0_indexOf_0f7a4_2 (by decide) ?_
  refine sp_V (n := 2) (As := [.int x, .int 0]) (rest := []) hG hT hB hi (sp_ix2 hG hT hi x) rfl sl_J0_633 sc_J0_indexOf_7cf53 si_J0_indexOf_7cf53 ss_J0_indexOf_7cf53 sv_J0_indexOf_7cf53 (by decide +kernel) rfl hl.1 (Nat.le_of_ble_eq_true rfl) (by decide) (by decide) (by decide) dJ0_indexOf_0f7a4_3 (fun L hLl => ?_)
  exact W.iret hB.1 hB.2.1 hB.2.2.2.2.1 (fun t ht _ => ⟨rfl, ht⟩) (lc (fun q h => by cases h) hLl) dJ0_indexOf_0f7a4_6 (hlocks := hB.2.2.2.2.2.1)
end STR4
theorem cvV_f {B : Nat} {SA : Nat → Nat} {k : UInt32} : cvV B SA (.float k) = .ref (SA k.toNat) := rfl
/-- the strings' methods, as the abstract machine calls them -/
theorem PrH_of {l : Launch} {s0 : State} {D : va_G} {cy : Nat → ClassId} {SA adV : Nat → Nat} {X : Nat × (Nat → Int32)} (hG : GG s0 D cy) (hT : ST s0 SA adV) : PrH l s0 D cy s0.heap.size s0.heap SA X := by
  intro d p e R s m args below meth c Q mi n0 z0 hB h19 hr1 hr2 L M pc k i vs st r hk hq hs hc hca hcb hd kk
  cases d with
  | zero => cases hc
  | succ d =>
    rcases callF_inv hc with ⟨h1, -⟩ | ⟨-, h8, hp⟩
    · omega
    · intro H locs ls hL hR hl
      have hw := hB.2.2.2.2.1
      have hsum := cat_sum st (cvV s0.heap.size SA)
      have hpre : ∀ (As : List Value) (U : State), U.heap = H → s.WarmedH U.vm → SPc s0 As As.toArray U := fun As U hU hWU => ⟨rfl, State.WarmedH.trans hw hWU, by rw [hU, hR.1]; exact Nat.le_add_right _ _, fun q hq => by rw [hU]; exact hR.2.1 q hq⟩
      have hrec : ∀ j, j < 22 → ∃ cellB : Cell, H[SA j]? = some cellB ∧ cellB.vm.isStatics = false ∧ s.vm.findClass "java/lang/String" = some cellB.cls := by
        intro j hj
        obtain ⟨cell, g1, g2, g3, g4⟩ := va_O.moved hw.alike (hT.1.1 j hj).1
        have hlt : SA j < s0.heap.size := (Array.getElem?_eq_some_iff.mp g1).1
        exact ⟨cell, by rw [hR.2.1 _ hlt]; exact g1, g2, g3⟩
      have hgo : ∀ (y' : MethodName) (bytes' : ByteArray) (mx' n d' j : Nat) (rt' : Option FieldType) (As : List Value) (v : Int32), prNz k = y' → j < 22 → y'.cls = "java/lang/String" → SP l s0 d' y' bytes' mx' rt' (.ref (SA j) :: As.map (cvV s0.heap.size SA)) (some (.int v)) → Cond.code y' bytes' mx' rt' ∈ lw_tbl → Cond.initialized y'.cls ∈ lw_tbl → Cond.instanceMethod y' ∈ lw_tbl → Cond.selects y'.cls y' y' ∈ lw_tbl → (parseMethodDescriptor y'.desc).map (fun d => d.parameters.length) = some n → As.length = n → d' ≤ 5 → mx' ≤ 12 → r = (some (.int v), M) →
          W p l e R s m args below meth c H locs (m_n M - n0) (m_z M - z0) Q (F0 m pc ls ((As.map (cvV s0.heap.size SA)).reverse ++ .ref (SA j) :: st.map (cvV s0.heap.size SA))) := by
        intro y' bytes' mx' n d' j rt' As v hpn hj hcl hM hcd hin him hse hpd hn hd5 hmx hr
        obtain ⟨cellB, b1, b2, b3⟩ := hrec j hj
        have hlk := prw_all (mC mi) h19 _ hq
        simp only at hlk
        rw [hpn] at hlk
        refine sp_run (mc0 := 0) (F := fun q => s0.heap.size ≤ q) (va_runV (C := y'.cls) (As := As.map (cvV s0.heap.size SA)) (rest := st.map (cvV s0.heap.size SA)) (nL := ML mi) ⟨hB.1, hB.2.1, hB.2.2.1, hB.2.2.2.1, fun w h => absurd h List.not_mem_nil⟩ hM ⟨⟨rfl, rfl, by show d' + 1 ≤ R.frames; omega, by show 8 + (mx' + 11) + 100 * d' ≤ R.locals; omega, fun w h a' U hU => by rw [List.mem_singleton.mp h]; exact hG.word hcd rfl (State.WarmedH.trans hw hU) a', List.mem_singleton.mpr rfl, hG.word hcd rfl hw args, hG.word hin rfl hw args, by rw [hcl]; exact ⟨by decide, by decide⟩, len_of hpd, hG.word hlk rfl hw args⟩, hG.word him rfl hw args, hG.word hse rfl hw args⟩ ⟨SPc_blind, ⟨cellB, b1, b2, by rw [hcl]; exact b3⟩, hpre _⟩ rfl (by simpa using hn) hL.2.1 rfl (lv_room (by omega)) hd ⟨by rw [hr] at hca; exact hca, by rw [hr] at hcb; exact hcb⟩) (fun Lx hLx => ?_)
        have k2 := kk H (locs ++ Lx) ls hL (by rw [hr]; exact hR) (fun q hq => (List.mem_append.mp hq).elim (hl q) (hLx q))
        rw [hr] at k2
        exact k2
      have hk3 : k = 1000 ∨ k = 1001 ∨ k = 1002 := by
        unfold prim at hp
        split at hp
        · exact Or.inl rfl
        · exact Or.inr (Or.inl rfl)
        · exact Or.inr (Or.inr rfl)
        · cases hp
      rcases hk3 with rfl | rfl | rfl
      · simp only [prim] at hp
        split at hp
        · next kk' =>
          split at hp
          · next hlt =>
            have hr := (Option.some.inj hp).symm
            have := hgo yJ0_length_8abf5 cJ0_length_8abf5 1 0 1 kk'.toNat (some .int) [] (nI (strT kk'.toNat).length) rfl hlt rfl (by rw [← (ln_ok _ hlt).1]; exact sp_length hG hT hlt) sc_J0_length_8abf5 si_J0_length_8abf5 ss_J0_length_8abf5 sv_J0_length_8abf5 (by decide +kernel) rfl (by decide) (by decide) hr
            exact this
          · cases hp
        · cases hp
      · simp only [prim] at hp
        split at hp
        · next kk' x =>
          split at hp
          · next hlt =>
            have hr := (Option.some.inj hp).symm
            obtain ⟨hlt, hin⟩ := hlt
            obtain ⟨h0, h1⟩ := inb_in hin
            obtain ⟨j, hj, rfl⟩ := nI_of h0
            rw [nI_clamp hj] at h1 hr
            have := hgo yJ0_charAt_5068e cJ0_charAt_5068e 2 1 3 kk'.toNat (some .char) [.int (nI j)] (nI ((strT kk'.toNat).getD j 0)) rfl hlt rfl (sp_charAt hG hT hlt (by rw [(ln_ok _ hlt).1]; exact h1)) sc_J0_charAt_5068e si_J0_charAt_5068e ss_J0_charAt_5068e sv_J0_charAt_5068e (by decide +kernel) rfl (by decide) (by decide) hr
            exact this
          · cases hp
        · cases hp
      · simp only [prim] at hp
        split at hp
        · next kk' x =>
          split at hp
          · next hlt =>
            have hr := (Option.some.inj hp).symm
            have := hgo yJ0_indexOf_0f7a4 cJ0_indexOf_0f7a4 2 1 3 kk'.toNat (some .int) [.int x] (fnd x (strT kk'.toNat) 0) rfl hlt rfl (sp_ix1 hG hT hlt x) sc_J0_indexOf_0f7a4 si_J0_indexOf_0f7a4 ss_J0_indexOf_0f7a4 sv_J0_indexOf_0f7a4 (by decide +kernel) rfl (by decide) (by decide) hr
            exact this
          · cases hp
        · cases hp
