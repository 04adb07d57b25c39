/-! ===== String constants: length, charAt, indexOf, by the JDK's own code ===== -/
theorem dJ0_length_8abf5_0 : decode cJ0_length_8abf5 0 = .ok (.aload_n 0, 1) := by decide +kernel
theorem dJ0_length_8abf5_1 : decode cJ0_length_8abf5 1 = .ok (.getfield 9, 3) := by decide +kernel
theorem dJ0_length_8abf5_4 : decode cJ0_length_8abf5 4 = .ok (.arraylength, 1) := by decide +kernel
theorem dJ0_length_8abf5_5 : decode cJ0_length_8abf5 5 = .ok (.aload_n 0, 1) := by decide +kernel
theorem dJ0_length_8abf5_6 : decode cJ0_length_8abf5 6 = .ok (.invokevirtual 335, 3) := by decide +kernel
theorem dJ0_length_8abf5_9 : decode cJ0_length_8abf5 9 = .ok (.ishr, 1) := by decide +kernel
theorem dJ0_length_8abf5_10 : decode cJ0_length_8abf5 10 = .ok (.ireturn, 1) := by decide +kernel
theorem dJ0_charAt_5068e_0 : decode cJ0_charAt_5068e 0 = .ok (.aload_n 0, 1) := by decide +kernel
theorem dJ0_charAt_5068e_1 : decode cJ0_charAt_5068e 1 = .ok (.invokevirtual 492, 3) := by decide +kernel
theorem dJ0_charAt_5068e_4 : decode cJ0_charAt_5068e 4 = .ok (.ifCond .eq 12, 3) := by decide +kernel
theorem dJ0_charAt_5068e_7 : decode cJ0_charAt_5068e 7 = .ok (.aload_n 0, 1) := by decide +kernel
theorem dJ0_charAt_5068e_8 : decode cJ0_charAt_5068e 8 = .ok (.getfield 9, 3) := by decide +kernel
theorem dJ0_charAt_5068e_11 : decode cJ0_charAt_5068e 11 = .ok (.iload_n 1, 1) := by decide +kernel
theorem dJ0_charAt_5068e_12 : decode cJ0_charAt_5068e 12 = .ok (.invokestatic 495, 3) := by decide +kernel
theorem dJ0_charAt_5068e_15 : decode cJ0_charAt_5068e 15 = .ok (.ireturn, 1) := by decide +kernel
theorem dJ0_charAt_5068e_16 : decode cJ0_charAt_5068e 16 = .ok (.aload_n 0, 1) := by decide +kernel
theorem dJ0_charAt_5068e_17 : decode cJ0_charAt_5068e 17 = .ok (.getfield 9, 3) := by decide +kernel
theorem dJ0_charAt_5068e_20 : decode cJ0_charAt_5068e 20 = .ok (.iload_n 1, 1) := by decide +kernel
theorem dJ0_charAt_5068e_21 : decode cJ0_charAt_5068e 21 = .ok (.invokestatic 498, 3) := by decide +kernel
theorem dJ0_charAt_5068e_24 : decode cJ0_charAt_5068e 24 = .ok (.ireturn, 1) := by decide +kernel
theorem dJ0_indexOf_0f7a4_0 : decode cJ0_indexOf_0f7a4 0 = .ok (.aload_n 0, 1) := by decide +kernel
theorem dJ0_indexOf_0f7a4_1 : decode cJ0_indexOf_0f7a4 1 = .ok (.iload_n 1, 1) := by decide +kernel
theorem dJ0_indexOf_0f7a4_2 : decode cJ0_indexOf_0f7a4 2 = .ok (.iconst 0, 1) := by decide +kernel
theorem dJ0_indexOf_0f7a4_3 : decode cJ0_indexOf_0f7a4 3 = .ok (.invokevirtual 633, 3) := by decide +kernel
theorem dJ0_indexOf_0f7a4_6 : decode cJ0_indexOf_0f7a4 6 = .ok (.ireturn, 1) := by decide +kernel
theorem dJ0_indexOf_7cf53_0 : decode cJ0_indexOf_7cf53 0 = .ok (.aload_n 0, 1) := by decide +kernel
theorem dJ0_indexOf_7cf53_1 : decode cJ0_indexOf_7cf53 1 = .ok (.invokevirtual 492, 3) := by decide +kernel
theorem dJ0_indexOf_7cf53_4 : decode cJ0_indexOf_7cf53 4 = .ok (.ifCond .eq 19, 3) := by decide +kernel
theorem dJ0_indexOf_7cf53_7 : decode cJ0_indexOf_7cf53 7 = .ok (.aload_n 0, 1) := by decide +kernel
theorem dJ0_indexOf_7cf53_8 : decode cJ0_indexOf_7cf53 8 = .ok (.getfield 9, 3) := by decide +kernel
theorem dJ0_indexOf_7cf53_11 : decode cJ0_indexOf_7cf53 11 = .ok (.iload_n 1, 1) := by decide +kernel
theorem dJ0_indexOf_7cf53_12 : decode cJ0_indexOf_7cf53 12 = .ok (.iload_n 2, 1) := by decide +kernel
theorem dJ0_indexOf_7cf53_13 : decode cJ0_indexOf_7cf53 13 = .ok (.aload_n 0, 1) := by decide +kernel
theorem dJ0_indexOf_7cf53_14 : decode cJ0_indexOf_7cf53 14 = .ok (.invokevirtual 505, 3) := by decide +kernel
theorem dJ0_indexOf_7cf53_17 : decode cJ0_indexOf_7cf53 17 = .ok (.invokestatic 637, 3) := by decide +kernel
theorem dJ0_indexOf_7cf53_20 : decode cJ0_indexOf_7cf53 20 = .ok (.goto 16, 3) := by decide +kernel
theorem dJ0_indexOf_7cf53_23 : decode cJ0_indexOf_7cf53 23 = .ok (.aload_n 0, 1) := by decide +kernel
theorem dJ0_indexOf_7cf53_24 : decode cJ0_indexOf_7cf53 24 = .ok (.getfield 9, 3) := by decide +kernel
theorem dJ0_indexOf_7cf53_27 : decode cJ0_indexOf_7cf53 27 = .ok (.iload_n 1, 1) := by decide +kernel
theorem dJ0_indexOf_7cf53_28 : decode cJ0_indexOf_7cf53 28 = .ok (.iload_n 2, 1) := by decide +kernel
theorem dJ0_indexOf_7cf53_29 : decode cJ0_indexOf_7cf53 29 = .ok (.aload_n 0, 1) := by decide +kernel
theorem dJ0_indexOf_7cf53_30 : decode cJ0_indexOf_7cf53 30 = .ok (.invokevirtual 505, 3) := by decide +kernel
theorem dJ0_indexOf_7cf53_33 : decode cJ0_indexOf_7cf53 33 = .ok (.invokestatic 640, 3) := by decide +kernel
theorem dJ0_indexOf_7cf53_36 : decode cJ0_indexOf_7cf53 36 = .ok (.ireturn, 1) := by decide +kernel
theorem dJ0_coder_7d493_0 : decode cJ0_coder_7d493 0 = .ok (.getstatic 38, 3) := by decide +kernel
theorem dJ0_coder_7d493_3 : decode cJ0_coder_7d493 3 = .ok (.ifCond .eq 10, 3) := by decide +kernel
theorem dJ0_coder_7d493_6 : decode cJ0_coder_7d493 6 = .ok (.aload_n 0, 1) := by decide +kernel
theorem dJ0_coder_7d493_7 : decode cJ0_coder_7d493 7 = .ok (.getfield 15, 3) := by decide +kernel
theorem dJ0_coder_7d493_10 : decode cJ0_coder_7d493 10 = .ok (.goto 4, 3) := by decide +kernel
theorem dJ0_coder_7d493_13 : decode cJ0_coder_7d493 13 = .ok (.iconst 1, 1) := by decide +kernel
theorem dJ0_coder_7d493_14 : decode cJ0_coder_7d493 14 = .ok (.ireturn, 1) := by decide +kernel
theorem dJ0_isLatin1_aae02_0 : decode cJ0_isLatin1_aae02 0 = .ok (.getstatic 38, 3) := by decide +kernel
theorem dJ0_isLatin1_aae02_3 : decode cJ0_isLatin1_aae02 3 = .ok (.ifCond .eq 14, 3) := by decide +kernel
theorem dJ0_isLatin1_aae02_6 : decode cJ0_isLatin1_aae02 6 = .ok (.aload_n 0, 1) := by decide +kernel
theorem dJ0_isLatin1_aae02_7 : decode cJ0_isLatin1_aae02 7 = .ok (.getfield 15, 3) := by decide +kernel
theorem dJ0_isLatin1_aae02_10 : decode cJ0_isLatin1_aae02 10 = .ok (.ifCond .ne 7, 3) := by decide +kernel
theorem dJ0_isLatin1_aae02_13 : decode cJ0_isLatin1_aae02 13 = .ok (.iconst 1, 1) := by decide +kernel
theorem dJ0_isLatin1_aae02_14 : decode cJ0_isLatin1_aae02 14 = .ok (.goto 4, 3) := by decide +kernel
theorem dJ0_isLatin1_aae02_17 : decode cJ0_isLatin1_aae02 17 = .ok (.iconst 0, 1) := by decide +kernel
theorem dJ0_isLatin1_aae02_18 : decode cJ0_isLatin1_aae02 18 = .ok (.ireturn, 1) := by decide +kernel
theorem dJ0_checkIndex_df160_0 : decode cJ0_checkIndex_df160 0 = .ok (.iload_n 0, 1) := by decide +kernel
theorem dJ0_checkIndex_df160_1 : decode cJ0_checkIndex_df160 1 = .ok (.iload_n 1, 1) := by decide +kernel
theorem dJ0_checkIndex_df160_2 : decode cJ0_checkIndex_df160 2 = .ok (.getstatic 1053, 3) := by decide +kernel
theorem dJ0_checkIndex_df160_5 : decode cJ0_checkIndex_df160 5 = .ok (.invokestatic 1059, 3) := by decide +kernel
theorem dJ0_checkIndex_df160_8 : decode cJ0_checkIndex_df160 8 = .ok (.pop, 1) := by decide +kernel
theorem dJ0_checkIndex_df160_9 : decode cJ0_checkIndex_df160 9 = .ok (.return_, 1) := by decide +kernel
theorem dJ1_charAt_3b067_0 : decode cJ1_charAt_3b067 0 = .ok (.iload_n 1, 1) := by decide +kernel
theorem dJ1_charAt_3b067_1 : decode cJ1_charAt_3b067 1 = .ok (.aload_n 0, 1) := by decide +kernel
theorem dJ1_charAt_3b067_2 : decode cJ1_charAt_3b067 2 = .ok (.arraylength, 1) := by decide +kernel
theorem dJ1_charAt_3b067_3 : decode cJ1_charAt_3b067 3 = .ok (.invokestatic 9, 3) := by decide +kernel
theorem dJ1_charAt_3b067_6 : decode cJ1_charAt_3b067 6 = .ok (.aload_n 0, 1) := by decide +kernel
theorem dJ1_charAt_3b067_7 : decode cJ1_charAt_3b067 7 = .ok (.iload_n 1, 1) := by decide +kernel
theorem dJ1_charAt_3b067_8 : decode cJ1_charAt_3b067 8 = .ok (.baload, 1) := by decide +kernel
theorem dJ1_charAt_3b067_9 : decode cJ1_charAt_3b067 9 = .ok (.sipush 255, 3) := by decide +kernel
theorem dJ1_charAt_3b067_12 : decode cJ1_charAt_3b067 12 = .ok (.iand, 1) := by decide +kernel
theorem dJ1_charAt_3b067_13 : decode cJ1_charAt_3b067 13 = .ok (.i2c, 1) := by decide +kernel
theorem dJ1_charAt_3b067_14 : decode cJ1_charAt_3b067 14 = .ok (.ireturn, 1) := by decide +kernel
theorem dJ1_canEncode_9a6ad_0 : decode cJ1_canEncode_9a6ad 0 = .ok (.iload_n 0, 1) := by decide +kernel
theorem dJ1_canEncode_9a6ad_1 : decode cJ1_canEncode_9a6ad 1 = .ok (.ifCond .lt 14, 3) := by decide +kernel
theorem dJ1_canEncode_9a6ad_4 : decode cJ1_canEncode_9a6ad 4 = .ok (.iload_n 0, 1) := by decide +kernel
theorem dJ1_canEncode_9a6ad_5 : decode cJ1_canEncode_9a6ad 5 = .ok (.sipush 255, 3) := by decide +kernel
theorem dJ1_canEncode_9a6ad_8 : decode cJ1_canEncode_9a6ad 8 = .ok (.if_icmp .gt 7, 3) := by decide +kernel
theorem dJ1_canEncode_9a6ad_11 : decode cJ1_canEncode_9a6ad 11 = .ok (.iconst 1, 1) := by decide +kernel
theorem dJ1_canEncode_9a6ad_12 : decode cJ1_canEncode_9a6ad 12 = .ok (.goto 4, 3) := by decide +kernel
theorem dJ1_canEncode_9a6ad_15 : decode cJ1_canEncode_9a6ad 15 = .ok (.iconst 0, 1) := by decide +kernel
theorem dJ1_canEncode_9a6ad_16 : decode cJ1_canEncode_9a6ad 16 = .ok (.ireturn, 1) := by decide +kernel
theorem dJ1_indexOf_4cfef_0 : decode cJ1_indexOf_4cfef 0 = .ok (.iload_n 1, 1) := by decide +kernel
theorem dJ1_indexOf_4cfef_1 : decode cJ1_indexOf_4cfef 1 = .ok (.invokestatic 88, 3) := by decide +kernel
theorem dJ1_indexOf_4cfef_4 : decode cJ1_indexOf_4cfef 4 = .ok (.ifCond .ne 5, 3) := by decide +kernel
theorem dJ1_indexOf_4cfef_7 : decode cJ1_indexOf_4cfef 7 = .ok (.iconst (-1), 1) := by decide +kernel
theorem dJ1_indexOf_4cfef_8 : decode cJ1_indexOf_4cfef 8 = .ok (.ireturn, 1) := by decide +kernel
theorem dJ1_indexOf_4cfef_9 : decode cJ1_indexOf_4cfef 9 = .ok (.iload_n 2, 1) := by decide +kernel
theorem dJ1_indexOf_4cfef_10 : decode cJ1_indexOf_4cfef 10 = .ok (.iconst 0, 1) := by decide +kernel
theorem dJ1_indexOf_4cfef_11 : decode cJ1_indexOf_4cfef 11 = .ok (.invokestatic 92, 3) := by decide +kernel
theorem dJ1_indexOf_4cfef_14 : decode cJ1_indexOf_4cfef 14 = .ok (.istore_n 2, 1) := by decide +kernel
theorem dJ1_indexOf_4cfef_15 : decode cJ1_indexOf_4cfef 15 = .ok (.iload_n 3, 1) := by decide +kernel
theorem dJ1_indexOf_4cfef_16 : decode cJ1_indexOf_4cfef 16 = .ok (.aload_n 0, 1) := by decide +kernel
theorem dJ1_indexOf_4cfef_17 : decode cJ1_indexOf_4cfef 17 = .ok (.arraylength, 1) := by decide +kernel
theorem dJ1_indexOf_4cfef_18 : decode cJ1_indexOf_4cfef 18 = .ok (.invokestatic 38, 3) := by decide +kernel
theorem dJ1_indexOf_4cfef_21 : decode cJ1_indexOf_4cfef 21 = .ok (.istore_n 3, 1) := by decide +kernel
theorem dJ1_indexOf_4cfef_22 : decode cJ1_indexOf_4cfef 22 = .ok (.iload_n 2, 1) := by decide +kernel
theorem dJ1_indexOf_4cfef_23 : decode cJ1_indexOf_4cfef 23 = .ok (.iload_n 3, 1) := by decide +kernel
theorem dJ1_indexOf_4cfef_24 : decode cJ1_indexOf_4cfef 24 = .ok (.if_icmp .lt 5, 3) := by decide +kernel
theorem dJ1_indexOf_4cfef_27 : decode cJ1_indexOf_4cfef 27 = .ok (.iconst (-1), 1) := by decide +kernel
theorem dJ1_indexOf_4cfef_28 : decode cJ1_indexOf_4cfef 28 = .ok (.ireturn, 1) := by decide +kernel
theorem dJ1_indexOf_4cfef_29 : decode cJ1_indexOf_4cfef 29 = .ok (.aload_n 0, 1) := by decide +kernel
theorem dJ1_indexOf_4cfef_30 : decode cJ1_indexOf_4cfef 30 = .ok (.iload_n 1, 1) := by decide +kernel
theorem dJ1_indexOf_4cfef_31 : decode cJ1_indexOf_4cfef 31 = .ok (.iload_n 2, 1) := by decide +kernel
theorem dJ1_indexOf_4cfef_32 : decode cJ1_indexOf_4cfef 32 = .ok (.iload_n 3, 1) := by decide +kernel
theorem dJ1_indexOf_4cfef_33 : decode cJ1_indexOf_4cfef 33 = .ok (.invokestatic 95, 3) := by decide +kernel
theorem dJ1_indexOf_4cfef_36 : decode cJ1_indexOf_4cfef 36 = .ok (.ireturn, 1) := by decide +kernel
theorem dJ1_indexOfChar_4cfef_0 : decode cJ1_indexOfChar_4cfef 0 = .ok (.iload_n 1, 1) := by decide +kernel
theorem dJ1_indexOfChar_4cfef_1 : decode cJ1_indexOfChar_4cfef 1 = .ok (.i2b, 1) := by decide +kernel
theorem dJ1_indexOfChar_4cfef_2 : decode cJ1_indexOfChar_4cfef 2 = .ok (.istore 4, 2) := by decide +kernel
theorem dJ1_indexOfChar_4cfef_4 : decode cJ1_indexOfChar_4cfef 4 = .ok (.iload_n 2, 1) := by decide +kernel
theorem dJ1_indexOfChar_4cfef_5 : decode cJ1_indexOfChar_4cfef 5 = .ok (.istore 5, 2) := by decide +kernel
theorem dJ1_indexOfChar_4cfef_7 : decode cJ1_indexOfChar_4cfef 7 = .ok (.iload 5, 2) := by decide +kernel
theorem dJ1_indexOfChar_4cfef_9 : decode cJ1_indexOfChar_4cfef 9 = .ok (.iload_n 3, 1) := by decide +kernel
theorem dJ1_indexOfChar_4cfef_10 : decode cJ1_indexOfChar_4cfef 10 = .ok (.if_icmp .ge 21, 3) := by decide +kernel
theorem dJ1_indexOfChar_4cfef_13 : decode cJ1_indexOfChar_4cfef 13 = .ok (.aload_n 0, 1) := by decide +kernel
theorem dJ1_indexOfChar_4cfef_14 : decode cJ1_indexOfChar_4cfef 14 = .ok (.iload 5, 2) := by decide +kernel
theorem dJ1_indexOfChar_4cfef_16 : decode cJ1_indexOfChar_4cfef 16 = .ok (.baload, 1) := by decide +kernel
theorem dJ1_indexOfChar_4cfef_17 : decode cJ1_indexOfChar_4cfef 17 = .ok (.iload 4, 2) := by decide +kernel
theorem dJ1_indexOfChar_4cfef_19 : decode cJ1_indexOfChar_4cfef 19 = .ok (.if_icmp .ne 6, 3) := by decide +kernel
theorem dJ1_indexOfChar_4cfef_22 : decode cJ1_indexOfChar_4cfef 22 = .ok (.iload 5, 2) := by decide +kernel
theorem dJ1_indexOfChar_4cfef_24 : decode cJ1_indexOfChar_4cfef 24 = .ok (.ireturn, 1) := by decide +kernel
theorem dJ1_indexOfChar_4cfef_25 : decode cJ1_indexOfChar_4cfef 25 = .ok (.iinc 5 1, 3) := by decide +kernel
theorem dJ1_indexOfChar_4cfef_28 : decode cJ1_indexOfChar_4cfef 28 = .ok (.goto (-21), 3) := by decide +kernel
theorem dJ1_indexOfChar_4cfef_31 : decode cJ1_indexOfChar_4cfef 31 = .ok (.iconst (-1), 1) := by decide +kernel
theorem dJ1_indexOfChar_4cfef_32 : decode cJ1_indexOfChar_4cfef 32 = .ok (.ireturn, 1) := by decide +kernel
theorem dJ3_checkIndex_8e157_0 : decode cJ3_checkIndex_8e157 0 = .ok (.iload_n 0, 1) := by decide +kernel
theorem dJ3_checkIndex_8e157_1 : decode cJ3_checkIndex_8e157 1 = .ok (.ifCond .lt 8, 3) := by decide +kernel
theorem dJ3_checkIndex_8e157_4 : decode cJ3_checkIndex_8e157 4 = .ok (.iload_n 0, 1) := by decide +kernel
theorem dJ3_checkIndex_8e157_5 : decode cJ3_checkIndex_8e157 5 = .ok (.iload_n 1, 1) := by decide +kernel
theorem dJ3_checkIndex_8e157_6 : decode cJ3_checkIndex_8e157 6 = .ok (.if_icmp .lt 10, 3) := by decide +kernel
theorem dJ3_checkIndex_8e157_9 : decode cJ3_checkIndex_8e157 9 = .ok (.aload_n 2, 1) := by decide +kernel
theorem dJ3_checkIndex_8e157_10 : decode cJ3_checkIndex_8e157 10 = .ok (.iload_n 0, 1) := by decide +kernel
theorem dJ3_checkIndex_8e157_11 : decode cJ3_checkIndex_8e157 11 = .ok (.iload_n 1, 1) := by decide +kernel
theorem dJ3_checkIndex_8e157_12 : decode cJ3_checkIndex_8e157 12 = .ok (.invokestatic 95, 3) := by decide +kernel
theorem dJ3_checkIndex_8e157_15 : decode cJ3_checkIndex_8e157 15 = .ok (.athrow, 1) := by decide +kernel
theorem dJ3_checkIndex_8e157_16 : decode cJ3_checkIndex_8e157 16 = .ok (.iload_n 0, 1) := by decide +kernel
theorem dJ3_checkIndex_8e157_17 : decode cJ3_checkIndex_8e157 17 = .ok (.ireturn, 1) := by decide +kernel
set_option maxRecDepth 100000 in
theorem sc_J0_length_8abf5 : Cond.code yJ0_length_8abf5 cJ0_length_8abf5 1 (some .int) ∈ lw_tbl := wl (qs := [()]) (g := fun _ => Cond.code yJ0_length_8abf5 cJ0_length_8abf5 1 (some .int)) [(3, 58)] rfl () (by simp)
set_option maxRecDepth 100000 in
theorem si_J0_length_8abf5 : Cond.initialized RJ0 ∈ lw_tbl := wl (qs := [()]) (g := fun _ => Cond.initialized RJ0) [(1, 18)] rfl () (by simp)
set_option maxRecDepth 100000 in
theorem ss_J0_length_8abf5 : Cond.instanceMethod yJ0_length_8abf5 ∈ lw_tbl := wl (qs := [()]) (g := fun _ => Cond.instanceMethod yJ0_length_8abf5) [(3, 56)] rfl () (by simp)
set_option maxRecDepth 100000 in
theorem sv_J0_length_8abf5 : Cond.selects RJ0 yJ0_length_8abf5 yJ0_length_8abf5 ∈ lw_tbl := wl (qs := [()]) (g := fun _ => Cond.selects RJ0 yJ0_length_8abf5 yJ0_length_8abf5) [(3, 57)] rfl () (by simp)
set_option maxRecDepth 100000 in
theorem sc_J0_coder_7d493 : Cond.code yJ0_coder_7d493 cJ0_coder_7d493 1 (some .byte) ∈ lw_tbl := wl (qs := [()]) (g := fun _ => Cond.code yJ0_coder_7d493 cJ0_coder_7d493 1 (some .byte)) [(3, 62)] rfl () (by simp)
set_option maxRecDepth 100000 in
theorem si_J0_coder_7d493 : Cond.initialized RJ0 ∈ lw_tbl := wl (qs := [()]) (g := fun _ => Cond.initialized RJ0) [(1, 18)] rfl () (by simp)
set_option maxRecDepth 100000 in
theorem ss_J0_coder_7d493 : Cond.instanceMethod yJ0_coder_7d493 ∈ lw_tbl := wl (qs := [()]) (g := fun _ => Cond.instanceMethod yJ0_coder_7d493) [(3, 60)] rfl () (by simp)
set_option maxRecDepth 100000 in
theorem sv_J0_coder_7d493 : Cond.selects RJ0 yJ0_coder_7d493 yJ0_coder_7d493 ∈ lw_tbl := wl (qs := [()]) (g := fun _ => Cond.selects RJ0 yJ0_coder_7d493 yJ0_coder_7d493) [(3, 61)] rfl () (by simp)
set_option maxRecDepth 100000 in
theorem sc_J0_isLatin1_aae02 : Cond.code yJ0_isLatin1_aae02 cJ0_isLatin1_aae02 1 (some .boolean) ∈ lw_tbl := wl (qs := [()]) (g := fun _ => Cond.code yJ0_isLatin1_aae02 cJ0_isLatin1_aae02 1 (some .boolean)) [(3, 72)] rfl () (by simp)
set_option maxRecDepth 100000 in
theorem si_J0_isLatin1_aae02 : Cond.initialized RJ0 ∈ lw_tbl := wl (qs := [()]) (g := fun _ => Cond.initialized RJ0) [(1, 18)] rfl () (by simp)
set_option maxRecDepth 100000 in
theorem ss_J0_isLatin1_aae02 : Cond.instanceMethod yJ0_isLatin1_aae02 ∈ lw_tbl := wl (qs := [()]) (g := fun _ => Cond.instanceMethod yJ0_isLatin1_aae02) [(3, 70)] rfl () (by simp)
set_option maxRecDepth 100000 in
theorem sv_J0_isLatin1_aae02 : Cond.selects RJ0 yJ0_isLatin1_aae02 yJ0_isLatin1_aae02 ∈ lw_tbl := wl (qs := [()]) (g := fun _ => Cond.selects RJ0 yJ0_isLatin1_aae02 yJ0_isLatin1_aae02) [(3, 71)] rfl () (by simp)
set_option maxRecDepth 100000 in
theorem sc_J0_charAt_5068e : Cond.code yJ0_charAt_5068e cJ0_charAt_5068e 2 (some .char) ∈ lw_tbl := wl (qs := [()]) (g := fun _ => Cond.code yJ0_charAt_5068e cJ0_charAt_5068e 2 (some .char)) [(3, 68)] rfl () (by simp)
set_option maxRecDepth 100000 in
theorem si_J0_charAt_5068e : Cond.initialized RJ0 ∈ lw_tbl := wl (qs := [()]) (g := fun _ => Cond.initialized RJ0) [(1, 18)] rfl () (by simp)
set_option maxRecDepth 100000 in
theorem ss_J0_charAt_5068e : Cond.instanceMethod yJ0_charAt_5068e ∈ lw_tbl := wl (qs := [()]) (g := fun _ => Cond.instanceMethod yJ0_charAt_5068e) [(3, 66)] rfl () (by simp)
set_option maxRecDepth 100000 in
theorem sv_J0_charAt_5068e : Cond.selects RJ0 yJ0_charAt_5068e yJ0_charAt_5068e ∈ lw_tbl := wl (qs := [()]) (g := fun _ => Cond.selects RJ0 yJ0_charAt_5068e yJ0_charAt_5068e) [(3, 67)] rfl () (by simp)
set_option maxRecDepth 100000 in
theorem sc_J1_charAt_3b067 : Cond.code yJ1_charAt_3b067 cJ1_charAt_3b067 2 (some .char) ∈ lw_tbl := wl (qs := [()]) (g := fun _ => Cond.code yJ1_charAt_3b067 cJ1_charAt_3b067 2 (some .char)) [(3, 75)] rfl () (by simp)
set_option maxRecDepth 100000 in
theorem si_J1_charAt_3b067 : Cond.initialized RJ1 ∈ lw_tbl := wl (qs := [()]) (g := fun _ => Cond.initialized RJ1) [(1, 19)] rfl () (by simp)
set_option maxRecDepth 100000 in
theorem ss_J1_charAt_3b067 : Cond.static yJ1_charAt_3b067 ∈ lw_tbl := wl (qs := [()]) (g := fun _ => Cond.static yJ1_charAt_3b067) [(3, 74)] rfl () (by simp)
set_option maxRecDepth 100000 in
theorem sc_J0_checkIndex_df160 : Cond.code yJ0_checkIndex_df160 cJ0_checkIndex_df160 2 none ∈ lw_tbl := wl (qs := [()]) (g := fun _ => Cond.code yJ0_checkIndex_df160 cJ0_checkIndex_df160 2 none) [(3, 78)] rfl () (by simp)
set_option maxRecDepth 100000 in
theorem si_J0_checkIndex_df160 : Cond.initialized RJ0 ∈ lw_tbl := wl (qs := [()]) (g := fun _ => Cond.initialized RJ0) [(1, 18)] rfl () (by simp)
set_option maxRecDepth 100000 in
theorem ss_J0_checkIndex_df160 : Cond.static yJ0_checkIndex_df160 ∈ lw_tbl := wl (qs := [()]) (g := fun _ => Cond.static yJ0_checkIndex_df160) [(3, 77)] rfl () (by simp)
set_option maxRecDepth 100000 in
theorem sc_J3_checkIndex_8e157 : Cond.code yJ3_checkIndex_8e157 cJ3_checkIndex_8e157 3 (some .int) ∈ lw_tbl := wl (qs := [()]) (g := fun _ => Cond.code yJ3_checkIndex_8e157 cJ3_checkIndex_8e157 3 (some .int)) [(3, 83)] rfl () (by simp)
set_option maxRecDepth 100000 in
theorem si_J3_checkIndex_8e157 : Cond.initialized RJ3 ∈ lw_tbl := wl (qs := [()]) (g := fun _ => Cond.initialized RJ3) [(1, 20)] rfl () (by simp)
set_option maxRecDepth 100000 in
theorem ss_J3_checkIndex_8e157 : Cond.static yJ3_checkIndex_8e157 ∈ lw_tbl := wl (qs := [()]) (g := fun _ => Cond.static yJ3_checkIndex_8e157) [(3, 82)] rfl () (by simp)
set_option maxRecDepth 100000 in
theorem sc_J0_indexOf_0f7a4 : Cond.code yJ0_indexOf_0f7a4 cJ0_indexOf_0f7a4 2 (some .int) ∈ lw_tbl := wl (qs := [()]) (g := fun _ => Cond.code yJ0_indexOf_0f7a4 cJ0_indexOf_0f7a4 2 (some .int)) [(3, 114)] rfl () (by simp)
set_option maxRecDepth 100000 in
theorem si_J0_indexOf_0f7a4 : Cond.initialized RJ0 ∈ lw_tbl := wl (qs := [()]) (g := fun _ => Cond.initialized RJ0) [(1, 18)] rfl () (by simp)
set_option maxRecDepth 100000 in
theorem ss_J0_indexOf_0f7a4 : Cond.instanceMethod yJ0_indexOf_0f7a4 ∈ lw_tbl := wl (qs := [()]) (g := fun _ => Cond.instanceMethod yJ0_indexOf_0f7a4) [(3, 112)] rfl () (by simp)
set_option maxRecDepth 100000 in
theorem sv_J0_indexOf_0f7a4 : Cond.selects RJ0 yJ0_indexOf_0f7a4 yJ0_indexOf_0f7a4 ∈ lw_tbl := wl (qs := [()]) (g := fun _ => Cond.selects RJ0 yJ0_indexOf_0f7a4 yJ0_indexOf_0f7a4) [(3, 113)] rfl () (by simp)
set_option maxRecDepth 100000 in
theorem sc_J0_indexOf_7cf53 : Cond.code yJ0_indexOf_7cf53 cJ0_indexOf_7cf53 3 (some .int) ∈ lw_tbl := wl (qs := [()]) (g := fun _ => Cond.code yJ0_indexOf_7cf53 cJ0_indexOf_7cf53 3 (some .int)) [(3, 118)] rfl () (by simp)
set_option maxRecDepth 100000 in
theorem si_J0_indexOf_7cf53 : Cond.initialized RJ0 ∈ lw_tbl := wl (qs := [()]) (g := fun _ => Cond.initialized RJ0) [(1, 18)] rfl () (by simp)
set_option maxRecDepth 100000 in
theorem ss_J0_indexOf_7cf53 : Cond.instanceMethod yJ0_indexOf_7cf53 ∈ lw_tbl := wl (qs := [()]) (g := fun _ => Cond.instanceMethod yJ0_indexOf_7cf53) [(3, 116)] rfl () (by simp)
set_option maxRecDepth 100000 in
theorem sv_J0_indexOf_7cf53 : Cond.selects RJ0 yJ0_indexOf_7cf53 yJ0_indexOf_7cf53 ∈ lw_tbl := wl (qs := [()]) (g := fun _ => Cond.selects RJ0 yJ0_indexOf_7cf53 yJ0_indexOf_7cf53) [(3, 117)] rfl () (by simp)
set_option maxRecDepth 100000 in
theorem sc_J1_indexOf_4cfef : Cond.code yJ1_indexOf_4cfef cJ1_indexOf_4cfef 4 (some .int) ∈ lw_tbl := wl (qs := [()]) (g := fun _ => Cond.code yJ1_indexOf_4cfef cJ1_indexOf_4cfef 4 (some .int)) [(3, 122)] rfl () (by simp)
set_option maxRecDepth 100000 in
theorem si_J1_indexOf_4cfef : Cond.initialized RJ1 ∈ lw_tbl := wl (qs := [()]) (g := fun _ => Cond.initialized RJ1) [(1, 19)] rfl () (by simp)
set_option maxRecDepth 100000 in
theorem ss_J1_indexOf_4cfef : Cond.static yJ1_indexOf_4cfef ∈ lw_tbl := wl (qs := [()]) (g := fun _ => Cond.static yJ1_indexOf_4cfef) [(3, 121)] rfl () (by simp)
set_option maxRecDepth 100000 in
theorem sc_J1_canEncode_9a6ad : Cond.code yJ1_canEncode_9a6ad cJ1_canEncode_9a6ad 1 (some .boolean) ∈ lw_tbl := wl (qs := [()]) (g := fun _ => Cond.code yJ1_canEncode_9a6ad cJ1_canEncode_9a6ad 1 (some .boolean)) [(3, 125)] rfl () (by simp)
set_option maxRecDepth 100000 in
theorem si_J1_canEncode_9a6ad : Cond.initialized RJ1 ∈ lw_tbl := wl (qs := [()]) (g := fun _ => Cond.initialized RJ1) [(1, 19)] rfl () (by simp)
set_option maxRecDepth 100000 in
theorem ss_J1_canEncode_9a6ad : Cond.static yJ1_canEncode_9a6ad ∈ lw_tbl := wl (qs := [()]) (g := fun _ => Cond.static yJ1_canEncode_9a6ad) [(3, 124)] rfl () (by simp)
set_option maxRecDepth 100000 in
theorem sc_J1_indexOfChar_4cfef : Cond.code yJ1_indexOfChar_4cfef cJ1_indexOfChar_4cfef 6 (some .int) ∈ lw_tbl := wl (qs := [()]) (g := fun _ => Cond.code yJ1_indexOfChar_4cfef cJ1_indexOfChar_4cfef 6 (some .int)) [(3, 132)] rfl () (by simp)
set_option maxRecDepth 100000 in
theorem si_J1_indexOfChar_4cfef : Cond.initialized RJ1 ∈ lw_tbl := wl (qs := [()]) (g := fun _ => Cond.initialized RJ1) [(1, 19)] rfl () (by simp)
set_option maxRecDepth 100000 in
theorem ss_J1_indexOfChar_4cfef : Cond.static yJ1_indexOfChar_4cfef ∈ lw_tbl := wl (qs := [()]) (g := fun _ => Cond.static yJ1_indexOfChar_4cfef) [(3, 131)] rfl () (by simp)
set_option maxRecDepth 100000 in
theorem sl_J0_335 : Cond.methodLink RJ0 335 yJ0_coder_7d493 ∈ lw_tbl := wl (qs := [()]) (g := fun _ => Cond.methodLink RJ0 335 yJ0_coder_7d493) [(3, 59)] rfl () (by simp)
set_option maxRecDepth 100000 in
theorem sl_J0_492 : Cond.methodLink RJ0 492 yJ0_isLatin1_aae02 ∈ lw_tbl := wl (qs := [()]) (g := fun _ => Cond.methodLink RJ0 492 yJ0_isLatin1_aae02) [(3, 69)] rfl () (by simp)
set_option maxRecDepth 100000 in
theorem sl_J0_495 : Cond.methodLink RJ0 495 yJ1_charAt_3b067 ∈ lw_tbl := wl (qs := [()]) (g := fun _ => Cond.methodLink RJ0 495 yJ1_charAt_3b067) [(3, 73)] rfl () (by simp)
set_option maxRecDepth 100000 in
theorem sl_J1_9 : Cond.methodLink RJ1 9 yJ0_checkIndex_df160 ∈ lw_tbl := wl (qs := [()]) (g := fun _ => Cond.methodLink RJ1 9 yJ0_checkIndex_df160) [(3, 76)] rfl () (by simp)
set_option maxRecDepth 100000 in
theorem sl_J0_1059 : Cond.methodLink RJ0 1059 yJ3_checkIndex_8e157 ∈ lw_tbl := wl (qs := [()]) (g := fun _ => Cond.methodLink RJ0 1059 yJ3_checkIndex_8e157) [(3, 81)] rfl () (by simp)
set_option maxRecDepth 100000 in
theorem sl_J0_633 : Cond.methodLink RJ0 633 yJ0_indexOf_7cf53 ∈ lw_tbl := wl (qs := [()]) (g := fun _ => Cond.methodLink RJ0 633 yJ0_indexOf_7cf53) [(3, 115)] rfl () (by simp)
set_option maxRecDepth 100000 in
theorem sl_J0_505 : Cond.methodLink RJ0 505 yJ0_length_8abf5 ∈ lw_tbl := wl (qs := [()]) (g := fun _ => Cond.methodLink RJ0 505 yJ0_length_8abf5) [(3, 119)] rfl () (by simp)
set_option maxRecDepth 100000 in
theorem sl_J0_637 : Cond.methodLink RJ0 637 yJ1_indexOf_4cfef ∈ lw_tbl := wl (qs := [()]) (g := fun _ => Cond.methodLink RJ0 637 yJ1_indexOf_4cfef) [(3, 120)] rfl () (by simp)
set_option maxRecDepth 100000 in
theorem sl_J1_88 : Cond.methodLink RJ1 88 yJ1_canEncode_9a6ad ∈ lw_tbl := wl (qs := [()]) (g := fun _ => Cond.methodLink RJ1 88 yJ1_canEncode_9a6ad) [(3, 123)] rfl () (by simp)
set_option maxRecDepth 100000 in
theorem sl_J1_95 : Cond.methodLink RJ1 95 yJ1_indexOfChar_4cfef ∈ lw_tbl := wl (qs := [()]) (g := fun _ => Cond.methodLink RJ1 95 yJ1_indexOfChar_4cfef) [(3, 130)] rfl () (by simp)
set_option maxRecDepth 100000 in
theorem sf_J0_9 : Cond.fieldLink RJ0 9 "java/lang/String" "value" "[B" ∈ lw_tbl := wl (qs := [()]) (g := fun _ => Cond.fieldLink RJ0 9 "java/lang/String" "value" "[B") [(8, 124)] rfl () (by simp)
set_option maxRecDepth 100000 in
theorem sf_J0_15 : Cond.fieldLink RJ0 15 "java/lang/String" "coder" "B" ∈ lw_tbl := wl (qs := [()]) (g := fun _ => Cond.fieldLink RJ0 15 "java/lang/String" "coder" "B") [(8, 125)] rfl () (by simp)
set_option maxRecDepth 100000 in
theorem sf_J0_38 : Cond.fieldLink RJ0 38 "java/lang/String" "COMPACT_STRINGS" "Z" ∈ lw_tbl := wl (qs := [()]) (g := fun _ => Cond.fieldLink RJ0 38 "java/lang/String" "COMPACT_STRINGS" "Z") [(3, 63)] rfl () (by simp)
set_option maxRecDepth 100000 in
theorem sf_J0_1053 : Cond.fieldLink RJ0 1053 "jdk/internal/util/Preconditions" "SIOOBE_FORMATTER" "Ljava/util/function/BiFunction;" ∈ lw_tbl := wl (qs := [()]) (g := fun _ => Cond.fieldLink RJ0 1053 "jdk/internal/util/Preconditions" "SIOOBE_FORMATTER" "Ljava/util/function/BiFunction;") [(3, 79)] rfl () (by simp)
set_option maxRecDepth 100000 in
theorem sl_J1_92 : Cond.methodLink RJ1 92 Lib.Math.max.name ∈ lw_tbl := wl (qs := [()]) (g := fun _ => Cond.methodLink RJ1 92 Lib.Math.max.name) [(3, 126)] rfl () (by simp)
set_option maxRecDepth 100000 in
theorem sl_J1_38 : Cond.methodLink RJ1 38 Lib.Math.min.name ∈ lw_tbl := wl (qs := [()]) (g := fun _ => Cond.methodLink RJ1 38 Lib.Math.min.name) [(3, 127)] rfl () (by simp)
set_option maxRecDepth 100000 in
theorem ls_cs : Cond.laysStatic "java/lang/String" "COMPACT_STRINGS" "Z" ∈ lw_tbl := wl (qs := [()]) (g := fun _ => Cond.laysStatic "java/lang/String" "COMPACT_STRINGS" "Z") [(3, 64)] rfl () (by simp)
set_option maxRecDepth 100000 in
theorem ls_fm : Cond.laysStatic "jdk/internal/util/Preconditions" "SIOOBE_FORMATTER" "Ljava/util/function/BiFunction;" ∈ lw_tbl := wl (qs := [()]) (g := fun _ => Cond.laysStatic "jdk/internal/util/Preconditions" "SIOOBE_FORMATTER" "Ljava/util/function/BiFunction;") [(3, 80)] rfl () (by simp)
set_option maxRecDepth 100000 in
theorem si_pre : Cond.initialized "jdk/internal/util/Preconditions" ∈ lw_tbl := wl (qs := [()]) (g := fun _ => Cond.initialized "jdk/internal/util/Preconditions") [(1, 20)] rfl () (by simp)
def prNz (k : Nat) : MethodName := match k with
  | 1000 => yJ0_length_8abf5
  | 1001 => yJ0_charAt_5068e
  | _ => yJ0_indexOf_0f7a4
set_option maxRecDepth 100000 in
theorem prw_0 : ∀ q ∈ cst 0, Cond.methodLink (clsN 0) q.1 (prNz q.2) ∈ lw_tbl := wl [] rfl
set_option maxRecDepth 100000 in
theorem prw_1 : ∀ q ∈ cst 1, Cond.methodLink (clsN 1) q.1 (prNz q.2) ∈ lw_tbl := wl [] rfl
set_option maxRecDepth 100000 in
theorem prw_2 : ∀ q ∈ cst 2, Cond.methodLink (clsN 2) q.1 (prNz q.2) ∈ lw_tbl := wl [] rfl
set_option maxRecDepth 100000 in
theorem prw_3 : ∀ q ∈ cst 3, Cond.methodLink (clsN 3) q.1 (prNz q.2) ∈ lw_tbl := wl [] rfl
set_option maxRecDepth 100000 in
theorem prw_4 : ∀ q ∈ cst 4, Cond.methodLink (clsN 4) q.1 (prNz q.2) ∈ lw_tbl := wl [] rfl
set_option maxRecDepth 100000 in
theorem prw_5 : ∀ q ∈ cst 5, Cond.methodLink (clsN 5) q.1 (prNz q.2) ∈ lw_tbl := wl [] rfl
set_option maxRecDepth 100000 in
theorem prw_6 : ∀ q ∈ cst 6, Cond.methodLink (clsN 6) q.1 (prNz q.2) ∈ lw_tbl := wl [] rfl
set_option maxRecDepth 100000 in
theorem prw_7 : ∀ q ∈ cst 7, Cond.methodLink (clsN 7) q.1 (prNz q.2) ∈ lw_tbl := wl [] rfl
set_option maxRecDepth 100000 in
theorem prw_8 : ∀ q ∈ cst 8, Cond.methodLink (clsN 8) q.1 (prNz q.2) ∈ lw_tbl := wl [] rfl
set_option maxRecDepth 100000 in
theorem prw_9 : ∀ q ∈ cst 9, Cond.methodLink (clsN 9) q.1 (prNz q.2) ∈ lw_tbl := wl [(3, 111), (3, 55), (3, 65)] rfl
set_option maxRecDepth 100000 in
theorem prw_10 : ∀ q ∈ cst 10, Cond.methodLink (clsN 10) q.1 (prNz q.2) ∈ lw_tbl := wl [] rfl
set_option maxRecDepth 100000 in
theorem prw_11 : ∀ q ∈ cst 11, Cond.methodLink (clsN 11) q.1 (prNz q.2) ∈ lw_tbl := wl [] rfl
set_option maxRecDepth 100000 in
theorem prw_12 : ∀ q ∈ cst 12, Cond.methodLink (clsN 12) q.1 (prNz q.2) ∈ lw_tbl := wl [] rfl
set_option maxRecDepth 100000 in
theorem prw_13 : ∀ q ∈ cst 13, Cond.methodLink (clsN 13) q.1 (prNz q.2) ∈ lw_tbl := wl [(6, 213), (6, 212)] rfl
set_option maxRecDepth 100000 in
theorem prw_14 : ∀ q ∈ cst 14, Cond.methodLink (clsN 14) q.1 (prNz q.2) ∈ lw_tbl := wl [] rfl
set_option maxRecDepth 100000 in
theorem prw_15 : ∀ q ∈ cst 15, Cond.methodLink (clsN 15) q.1 (prNz q.2) ∈ lw_tbl := wl [] rfl
set_option maxRecDepth 100000 in
theorem prw_16 : ∀ q ∈ cst 16, Cond.methodLink (clsN 16) q.1 (prNz q.2) ∈ lw_tbl := wl [] rfl
set_option maxRecDepth 100000 in
theorem prw_17 : ∀ q ∈ cst 17, Cond.methodLink (clsN 17) q.1 (prNz q.2) ∈ lw_tbl := wl [] rfl
set_option maxRecDepth 100000 in
theorem prw_18 : ∀ q ∈ cst 18, Cond.methodLink (clsN 18) q.1 (prNz q.2) ∈ lw_tbl := wl [] rfl
theorem prw_all : ∀ c, c < 19 → ∀ q ∈ cst c, Cond.methodLink (clsN c) q.1 (prNz q.2) ∈ lw_tbl
  | 0, _ => prw_0
  | 1, _ => prw_1
  | 2, _ => prw_2
  | 3, _ => prw_3
  | 4, _ => prw_4
  | 5, _ => prw_5
  | 6, _ => prw_6
  | 7, _ => prw_7
  | 8, _ => prw_8
  | 9, _ => prw_9
  | 10, _ => prw_10
  | 11, _ => prw_11
  | 12, _ => prw_12
  | 13, _ => prw_13
  | 14, _ => prw_14
  | 15, _ => prw_15
  | 16, _ => prw_16
  | 17, _ => prw_17
  | 18, _ => prw_18
  | k + 19, h => absurd h (by omega)
set_option maxRecDepth 100000 in
theorem srw : ∀ q ∈ sttL, Cond.stringRef (clsN q.1) q.2.1 q.2.2 ∈ lw_tbl := wl [(3, 110), (3, 54), (6, 207), (6, 214), (6, 215), (6, 216), (6, 234), (6, 235), (6, 236), (6, 237), (6, 238), (6, 239), (7, 0), (6, 221), (6, 222), (6, 223), (6, 224), (6, 225), (6, 226), (6, 227), (6, 228), (6, 229)] rfl
