/-! ===== charAt and indexOf of string constants ===== -/
theorem ch_ok : ∀ i, i < 22 → ∀ k, k < lenS.getD i 0 → (((bytS.getD i []).getD k 0 &&& 255).toUInt32 % 65536).toInt32 = nI ((strT i).getD k 0) := by decide +kernel
theorem ch_nr : ∀ i, i < 22 → ∀ k, k < lenS.getD i 0 → narrow .char (.int (nI ((strT i).getD k 0))) = .int (nI ((strT i).getD k 0)) := by decide +kernel
theorem ln_ok : ∀ i, i < 22 → lenS.getD i 0 = (strT i).length ∧ lenS.getD i 0 < 200 ∧ (bytS.getD i []).length = lenS.getD i 0 := by decide +kernel
theorem by_ok : ∀ i, i < 22 → ∀ k, k < lenS.getD i 0 → (bytS.getD i []).getD k 0 = nI ((strT i).getD k 0) ∧ (strT i).getD k 0 < 128 := by decide +kernel
theorem as_ok : ∀ x, x < 128 → (nI x).toInt8.toInt32 = nI x ∧ nI x &&& 255 = nI x := by decide +kernel
theorem by_eq {x n : Nat} (hx : x < 128) (hn : n < 256) : nI x = (nI n).toInt8.toInt32 ↔ nI n = nI x := by
  rw [sc_eq (as_ok x hx).1 hn, (as_ok x hx).2]
  exact ⟨fun h => h.symm, fun h => h.symm⟩
section STR3
variable {l : Launch} {s0 : State} {D : va_G} {cy : Nat → ClassId} {adK adV : Nat → Nat}
theorem sp_l1char (hG : GG s0 D cy) (hT : ST s0 adK adV) {i k : Nat} (hi : i < 22) (hk : k < lenS.getD i 0) : SP l s0 2 yJ1_charAt_3b067 cJ1_charAt_3b067 2 (some .char) [.ref (adV i), .int (nI k)] (some (.int (nI ((strT i).getD k 0)))) := by
  refine SP.of (by decide +kernel) (Nat.le_of_ble_eq_true rfl) ?_
  intro p e s m below meth c ls hB hl
  have hE := hB.wS hT
  have hl2 : lv_has ls 2 [(0, .ref (adV i)), (1, .int (nI k))] := hl
  have hb := (ln_ok i hi).2.1
  refine lv_iload_n hB.1 hB.2.1 dJ1_charAt_3b067_0 rfl (lv_at hl2 1 rfl) ?_
  refine lv_aload_n hB.1 hB.2.1 dJ1_charAt_3b067_1 rfl (lv_at hl2 0 rfl) ?_
  refine va_tlen (v := nI (lenS.getD i 0)) hB.1 hB.2.1 (hE.1 i hi).2.2.2 va_S0 rfl dJ1_charAt_3b067_2 ?_
  refine sp_S (n := 2) (As := [.int (nI k), .int (nI (lenS.getD i 0))]) (rest := []) hG hB (sp_schk hG hT (nI_pos (by omega)) (nI_lt hk (by omega))) (by decide +kernel) sl_J1_9 sc_J0_checkIndex_df160 si_J0_checkIndex_df160 ss_J0_checkIndex_df160 (by decide +kernel) rfl hl.1 (Nat.le_of_ble_eq_true rfl) (by decide) (by decide) (by decide) dJ1_charAt_3b067_3 (fun L hLl => ?_)
  have hLl := lc (locs := []) (fun q h => by cases h) hLl
  refine lv_aload_n hB.1 hB.2.1 dJ1_charAt_3b067_6 rfl (lv_at hl2 0 rfl) ?_
  refine lv_iload_n hB.1 hB.2.1 dJ1_charAt_3b067_7 rfl (lv_at hl2 1 rfl) ?_
  refine va_tb hB.1 hB.2.1 (hE.1 i hi).2.2.2 (va_SL hLl) (vp_in_nI hk (by omega)) rfl dJ1_charAt_3b067_8 ?_
  rw [nI_clamp (by omega)]
  refine lv_sipush (v := 255) hB.1 hB.2.1 dJ1_charAt_3b067_9 (by decide) ?_
  refine lv_iand hB.1 hB.2.1 dJ1_charAt_3b067_12 ?_
  refine lv_i2c (v := nI ((strT i).getD k 0)) hB.1 hB.2.1 dJ1_charAt_3b067_13 (ch_ok i hi k hk) ?_
  exact W.zret (ty := .char) hB.1 hB.2.1 hB.2.2.2.2.1 (ch_nr i hi k hk) (fun t ht _ => ⟨rfl, ht⟩) hLl dJ1_charAt_3b067_14 (hlocks := hB.2.2.2.2.2.1)
theorem sp_charAt (hG : GG s0 D cy) (hT : ST s0 adK adV) {i k : Nat} (hi : i < 22) (hk : k < lenS.getD i 0) : SP l s0 3 yJ0_charAt_5068e cJ0_charAt_5068e 2 (some .char) [.ref (adK i), .int (nI k)] (some (.int (nI ((strT i).getD k 0)))) := by
  refine SP.of (by decide +kernel) (Nat.le_of_ble_eq_true rfl) ?_
  intro p e s m below meth c ls hB hl
  have hE := hB.wS hT
  have hl2 : lv_has ls 2 [(0, .ref (adK i)), (1, .int (nI k))] := hl
  refine lv_aload_n hB.1 hB.2.1 dJ0_charAt_5068e_0 rfl (lv_at hl2 0 rfl) ?_
  refine sp_V (n := 0) (As := []) (rest := []) hG hT hB hi (sp_isLatin1 hG hT hi) rfl sl_J0_492 sc_J0_isLatin1_aae02 si_J0_isLatin1_aae02 ss_J0_isLatin1_aae02 sv_J0_isLatin1_aae02 (by decide +kernel) rfl hl.1 (Nat.le_of_ble_eq_true rfl) (by decide) (by decide) (by decide) dJ0_charAt_5068e_1 (fun L hLl => ?_)
  have hLl := lc (locs := []) (fun q h => by cases h) hLl
  refine lv_if_eq hB.1 hB.2.1 dJ0_charAt_5068e_4 (tgt := 16) (by decide) (fun h => absurd h (by decide)) (fun _ => ?_)
  refine lv_aload_n hB.1 hB.2.1 dJ0_charAt_5068e_7 rfl (lv_at hl2 0 rfl) ?_
  refine vk_getf hB.1 hB.2.1 (hE.1 i hi).2.2.1 (va_SL hLl) hB.2.2.2.1 (hB.wd hG sf_J0_9 rfl) (fun _ h => h) dJ0_charAt_5068e_8 ?_
  refine lv_iload_n hB.1 hB.2.1 dJ0_charAt_5068e_11 rfl (lv_at hl2 1 rfl) ?_
  refine sp_S (n := 2) (As := [.ref (adV i), .int (nI k)]) (rest := []) hG hB (sp_l1char hG hT hi hk) (by decide +kernel) sl_J0_495 sc_J1_charAt_3b067 si_J1_charAt_3b067 ss_J1_charAt_3b067 (by decide +kernel) rfl hl.1 (Nat.le_of_ble_eq_true rfl) (by decide) (by decide) (by decide) dJ0_charAt_5068e_12 (fun L2 hLl2 => ?_)
  exact W.zret (ty := .char) hB.1 hB.2.1 hB.2.2.2.2.1 (ch_nr i hi k hk) (fun t ht _ => ⟨rfl, ht⟩) (lc hLl hLl2) dJ0_charAt_5068e_15 (hlocks := hB.2.2.2.2.2.1)
theorem sp_canEnc (x : Int32) : SP l s0 0 yJ1_canEncode_9a6ad cJ1_canEncode_9a6ad 1 (some .boolean) [.int x] (some (.int (if x < 0 ∨ 255 < x then 0 else 1))) := by
  refine SP.of (by decide +kernel) (Nat.le_of_ble_eq_true rfl) ?_
  intro p e s m below meth c ls hB hl
  have hl2 : lv_has ls 1 [(0, .int x)] := hl
  have h0 : ∀ (h : x < 0 ∨ 255 < x), W p l e (RMd 0 0 0) s m [Value.int x].toArray below meth c s.heap [] 0 0 (MQ below (SQc (some (.int (if x < 0 ∨ 255 < x then 0 else 1)))) [Value.int x].toArray s 0 0 (fun q => s0.heap.size ≤ q)) (F0 m 15 ls []) := by
    intro h
    rw [if_pos h]
    refine lv_iconst (v := 0) hB.1 hB.2.1 dJ1_canEncode_9a6ad_15 (by decide) ?_
    exact W.zret (ty := .boolean) (v := 0) hB.1 hB.2.1 hB.2.2.2.2.1 rfl (fun t ht _ => ⟨rfl, ht⟩) (fun q h => by cases h) dJ1_canEncode_9a6ad_16 (hlocks := hB.2.2.2.2.2.1)
  refine lv_iload_n hB.1 hB.2.1 dJ1_canEncode_9a6ad_0 rfl (lv_at hl2 0 rfl) ?_
  refine lv_if_lt hB.1 hB.2.1 dJ1_canEncode_9a6ad_1 (tgt := 15) (by decide) (fun h => h0 (Or.inl h)) (fun h1 => ?_)
  refine lv_iload_n hB.1 hB.2.1 dJ1_canEncode_9a6ad_4 rfl (lv_at hl2 0 rfl) ?_
  refine lv_sipush (v := 255) hB.1 hB.2.1 dJ1_canEncode_9a6ad_5 (by decide) ?_
  refine lv_icmp_gt hB.1 hB.2.1 dJ1_canEncode_9a6ad_8 (tgt := 15) (by decide) (fun h => h0 (Or.inr h)) (fun h2 => ?_)
  rw [if_neg (fun q => q.elim h1 h2)]
  refine lv_iconst (v := 1) hB.1 hB.2.1 dJ1_canEncode_9a6ad_11 (by decide) ?_
  refine lv_goto hB.1 hB.2.1 dJ1_canEncode_9a6ad_12 (tgt := 16) (by decide) ?_
  exact W.zret (ty := .boolean) (v := 1) hB.1 hB.2.1 hB.2.2.2.2.1 rfl (fun t ht _ => ⟨rfl, ht⟩) (fun q h => by cases h) dJ1_canEncode_9a6ad_16 (hlocks := hB.2.2.2.2.2.1)
theorem sp_ixc (hT : ST s0 adK adV) {i n : Nat} (hi : i < 22) (hn : n < 256) : SP l s0 0 yJ1_indexOfChar_4cfef cJ1_indexOfChar_4cfef 6 (some .int) [.ref (adV i), .int (nI n), .int 0, .int (nI (lenS.getD i 0))] (some (.int (fnd (nI n) (strT i) 0))) := by
  refine SP.of (by decide +kernel) (Nat.le_of_ble_eq_true rfl) ?_
  intro p e s m below meth c ls hB hl
  have hE := hB.wS hT
  obtain ⟨hb1, hb2, -⟩ := ln_ok i hi
  have loop : ∀ (t : List Nat) (j : Nat), (strT i).drop j = t → j ≤ lenS.getD i 0 → fnd (nI n) t j = fnd (nI n) (strT i) 0 → ∀ ls : Array Slot, lv_has ls 6 [(0, .ref (adV i)), (3, .int (nI (lenS.getD i 0))), (4, .int (nI n).toInt8.toInt32), (5, .int (nI j))] → W p l e (RMd 0 0 0) s m [Value.ref (adV i), .int (nI n), .int 0, .int (nI (lenS.getD i 0))].toArray below meth c s.heap [] 0 0 (MQ below (SQc (some (.int (fnd (nI n) (strT i) 0)))) [Value.ref (adV i), .int (nI n), .int 0, .int (nI (lenS.getD i 0))].toArray s 0 0 (fun q => s0.heap.size ≤ q)) (F0 m 7 ls []) := by
    intro t
    induction t with
    | nil =>
      intro j hj hjl hf ls hl
      have q := List.drop_eq_nil_iff.mp hj
      refine lv_iload hB.1 hB.2.1 dJ1_indexOfChar_4cfef_7 (lv_at hl 3 rfl) ?_
      refine lv_iload_n hB.1 hB.2.1 dJ1_indexOfChar_4cfef_9 rfl (lv_at hl 1 rfl) ?_
      refine lv_icmp_ge hB.1 hB.2.1 dJ1_indexOfChar_4cfef_10 (tgt := 31) (by decide) (fun _ => ?_) (fun h => absurd (nI_le (by omega) (by omega)) h)
      refine lv_iconst (v := -1) hB.1 hB.2.1 dJ1_indexOfChar_4cfef_31 (by decide) ?_
      rw [← hf]
      exact W.iret hB.1 hB.2.1 hB.2.2.2.2.1 (fun t ht _ => ⟨rfl, ht⟩) (fun q h => by cases h) dJ1_indexOfChar_4cfef_32 (hlocks := hB.2.2.2.2.2.1)
    | cons x t ih =>
      intro j hj hjl hf ls hl
      have hlt : j < (strT i).length := by
        rcases Nat.lt_or_ge j (strT i).length with h | h
        · exact h
        · rw [List.drop_eq_nil_iff.mpr h] at hj; cases hj
      have hx : (strT i).getD j 0 = x := by
        have h4 := congrArg (fun z => z[0]?) hj
        have h5 : (strT i)[j]? = some x := by simpa [List.getElem?_drop] using h4
        rw [List.getD_eq_getElem?_getD, h5]; rfl
      have ht : (strT i).drop (j + 1) = t := by
        have := congrArg List.tail hj
        rw [List.tail_drop] at this
        exact this
      obtain ⟨g1, g2⟩ := by_ok i hi j (by omega)
      rw [hx] at g1 g2
      refine lv_iload hB.1 hB.2.1 dJ1_indexOfChar_4cfef_7 (lv_at hl 3 rfl) ?_
      refine lv_iload_n hB.1 hB.2.1 dJ1_indexOfChar_4cfef_9 rfl (lv_at hl 1 rfl) ?_
      refine lv_icmp_ge hB.1 hB.2.1 dJ1_indexOfChar_4cfef_10 (tgt := 31) (by decide) (fun h => absurd h (nI_ge (by omega) (by omega))) (fun _ => ?_)
      refine lv_aload_n hB.1 hB.2.1 dJ1_indexOfChar_4cfef_13 rfl (lv_at hl 0 rfl) ?_
      refine lv_iload hB.1 hB.2.1 dJ1_indexOfChar_4cfef_14 (lv_at hl 3 rfl) ?_
      refine va_tb (v := .int (nI x)) hB.1 hB.2.1 (hE.1 i hi).2.2.2 va_S0 (vp_in_nI (by omega) (by omega)) (by rw [nI_clamp (by omega), g1]) dJ1_indexOfChar_4cfef_16 ?_
      refine lv_iload hB.1 hB.2.1 dJ1_indexOfChar_4cfef_17 (lv_at hl 2 rfl) ?_
      rw [fnd] at hf
      refine lv_icmp_ne hB.1 hB.2.1 dJ1_indexOfChar_4cfef_19 (tgt := 25) (by decide) (fun h => ?_) (fun h => ?_)
      · rw [if_neg (fun q => h ((by_eq g2 hn).mpr q))] at hf
        refine lv_iinc (lv' := [(5, .int (nI (j + 1))), (0, .ref (adV i)), (3, .int (nI (lenS.getD i 0))), (4, .int (nI n).toInt8.toInt32)]) hB.1 hB.2.1 dJ1_indexOfChar_4cfef_25 hl (k := 3) rfl (v := nI (j + 1)) (by rw [nI_succ]; rfl) (by decide) rfl (fun ls' hl' => ?_)
        refine lv_goto hB.1 hB.2.1 dJ1_indexOfChar_4cfef_28 (tgt := 7) (by decide) ?_
        exact ih (j + 1) ht (by omega) hf ls' (lv_sub hl' [1, 2, 3, 0] rfl)
      · rw [if_pos ((by_eq g2 hn).mp h)] at hf
        refine lv_iload hB.1 hB.2.1 dJ1_indexOfChar_4cfef_22 (lv_at hl 3 rfl) ?_
        rw [← hf]
        exact W.iret hB.1 hB.2.1 hB.2.2.2.2.1 (fun t ht _ => ⟨rfl, ht⟩) (fun q h => by cases h) dJ1_indexOfChar_4cfef_24 (hlocks := hB.2.2.2.2.2.1)
  have hl2 : lv_has ls 6 [(0, .ref (adV i)), (1, .int (nI n)), (2, .int 0), (3, .int (nI (lenS.getD i 0)))] := hl
  refine lv_iload_n hB.1 hB.2.1 dJ1_indexOfChar_4cfef_0 rfl (lv_at hl2 1 rfl) ?_
  refine lv_i2b (v := (nI n).toInt8.toInt32) hB.1 hB.2.1 dJ1_indexOfChar_4cfef_1 rfl ?_
  refine lv_istore (lv' := [(4, .int (nI n).toInt8.toInt32), (0, .ref (adV i)), (1, .int (nI n)), (2, .int 0), (3, .int (nI (lenS.getD i 0)))]) hB.1 hB.2.1 dJ1_indexOfChar_4cfef_2 hl2 (by decide) rfl (fun ls1 hl3 => ?_)
  refine lv_iload_n hB.1 hB.2.1 dJ1_indexOfChar_4cfef_4 rfl (lv_at hl3 3 rfl) ?_
  refine lv_istore (lv' := [(5, .int 0), (4, .int (nI n).toInt8.toInt32), (0, .ref (adV i)), (1, .int (nI n)), (2, .int 0), (3, .int (nI (lenS.getD i 0)))]) hB.1 hB.2.1 dJ1_indexOfChar_4cfef_5 hl3 (by decide) rfl (fun ls2 hl4 => ?_)
  exact loop (strT i) 0 rfl (Nat.zero_le _) rfl ls2 (lv_sub hl4 [2, 5, 1, 0] rfl)
end STR3
