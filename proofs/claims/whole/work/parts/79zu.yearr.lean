/-! ===== a year: the reference's line ===== -/
theorem r_lineFor {X : Nat × (Nat → Int32)} {d : Nat} {I : Nat → Nat → Int32} {J : Nat → Nat → Int64} {k s F F1 al L yr : Nat} {B : Nat → Int32} {mks : Nat → Nat} {sg : Nat → List (Nat × Nat)} {wy : Nat → Nat × Nat} {fi : Nat → Nat → Int32} {x : Int32} (hd : 7 ≤ d) (hk : k < 3) (hs : s < 6) (hR : RWl (I 178) 0 F B) (hB : WB B (pop F)) (hS : RSh (I 178) s F1) (h0 : 0 < pop F1) (hal : I 178 1 = nI al) (hal2 : al < 2) (hm : ∀ k, k < 24 → I 178 (10 + k) = nI (mks k)) (hm4 : ∀ k, k < 24 → mks k < 4) (hy : I 178 3 = nI yr) (hM : ∀ b, b < 24 → I 178 (820 + b) = nI (mtS fi b)) (hL : LnY I k L sg wy) :
    ∃ I', callF X d 229 [.ref 177, .int (nI k), .int (nI s)] (mk I J) = some (some (.int (fkO (16 * k) (lnY sg (vsY yr F B F1 al mks x fi)) L 0)), mk I' J) ∧ FR I I' := by
  have h24 := hR.1
  have h24' := hS.1
  obtain ⟨d, rfl⟩ : ∃ d', d = d' + 1 := ⟨d - 1, by omega⟩
  obtain ⟨l1, l2, l3, l4⟩ := id hL
  have c70 : I 178 (70 + s) = nI (pop F1) := hS.2.1
  have ga := r_gathers (X := X) (d := d) (I := I) (J := J) (a := 0) (by omega) (by decide) hR
  obtain ⟨n, en⟩ : ∃ n, n = fb_ct (isB B) (pop F) := ⟨_, rfl⟩
  have n24 : n ≤ 24 := by have := fb_ct_le (isB B) (pop F); omega
  rw [← en] at ga
  obtain ⟨Ig, eIg⟩ : ∃ Ig, Ig = Igat I F B := ⟨_, rfl⟩
  rw [← eIg] at ga
  have gf : ∀ a, a ≠ 189 → a ≠ 192 → Ig a = I a := fun a h1 h2 => by rw [eIg]; unfold Igat; rw [vu_ne h2, vu_ne h1]
  have g189 : ∀ m, m < n → Ig 189 m = B (kth (isB B) (pop F) m) := fun m h => by rw [eIg]; unfold Igat; rw [vu_ne (by decide), vu_eq]; unfold gatB; rw [if_pos (by omega)]
  have g178 : Ig 178 = I 178 := gf 178 (by decide) (by decide)
  have base : ∀ k, k < 24 → fillI 24 (-1) (Ig 188) k = (fun _ => (-1 : Int32)) k := fun k hk => by unfold fillI; rw [if_pos hk]
  obtain ⟨mm, em⟩ : ∃ mm, mm = if n < pop F1 then n else pop F1 := ⟨_, rfl⟩
  have hmm : mm ≤ n ∧ mm ≤ pop F1 := by rw [em]; split <;> omega
  have p1 := r_simply (X := X) (d := d) (I := Ig) (J := J) (s := s) (F := F1) (cnt := n) (mm := mm) (y := 0) (v := nI 0) (u := nI 0) (sn := snF F1) (by omega) hs (by rw [g178]; exact hS) em n24 (by decide) (fun _ => rfl) (fun i hi => sn_lt hi) (fun f i hi => r_snake (X := X) (d := d - 1) (by omega) hs (by rw [vu_ne (by decide), g178]; exact hS) (by omega))
  have lw := ly_WB (F1 := F1) (y := 0) (v := nI 0) (mm := mm) hB (by rw [em, en])
  have p2 := lyF_cg (tg := tgF (nI 0) 0 (pop F1) (snF F1)) (w := Ig 189) (w' := fun i => B (kth (isB B) (pop F) i)) mm (fun i hi => g189 i (by omega)) base
  obtain ⟨f, ef⟩ : ∃ f, f = lyF (tgF (nI 0) 0 (pop F1) (snF F1)) (Ig 189) (fillI 24 (-1) (Ig 188)) mm := ⟨_, rfl⟩
  obtain ⟨ly, ely⟩ : ∃ ly, ly = lyF (tgF (nI 0) 0 (pop F1) (snF F1)) (fun i => B (kth (isB B) (pop F) i)) (fun _ => -1) mm := ⟨_, rfl⟩
  rw [← ef] at p1
  rw [← ef, ← ely] at p2
  rw [← ely] at lw
  have fw : WB f (pop F1) := WB_cg h24' lw p2
  have ept : (ptF 0 0 F B F1 al mks x).2 = ly := by
    unfold ptF; rw [if_neg (by decide), if_neg (by decide), if_neg (by decide), ely, em, en]
  obtain ⟨Il, eIl⟩ : ∃ Il, Il = va_up Ig 188 f := ⟨_, rfl⟩
  rw [← eIl] at p1
  have lf : ∀ a, a ≠ 188 → a ≠ 189 → a ≠ 192 → Il a = I a := fun a h1 h2 h3 => by rw [eIl, vu_ne h1, gf a h2 h3]
  have l78 : Il 178 = I 178 := lf _ (by decide) (by decide) (by decide)
  have q1 := r_lays (X := X) (d := d) (I := Il) (J := J) (a := 0) (F := F) (N := 186) (B := B) (by omega) (by decide) (by rw [l78]; exact hR) hB rfl (by decide)
  obtain ⟨Io, eIo⟩ : ∃ Io, Io = va_up (va_up Il 186 (gN F B (Il 186) (pop F))) 177 (va_up (Il 177) 26 (nI (ins F B))) := ⟨_, rfl⟩
  have of : ∀ a, a ≠ 177 → a ≠ 186 → Io a = Il a := fun a h1 h2 => by rw [eIo, vu_ne h1, vu_ne h2]
  have o7 : ∀ k, k ≠ 26 → Io 177 k = Il 177 k := fun k hk => by rw [eIo, vu_eq, vu_ne hk]
  have o8 : Io 188 = f := by rw [of _ (by decide) (by decide), eIl, vu_eq]
  have o78 : Io 178 = I 178 := by rw [of _ (by decide) (by decide)]; exact l78
  have w7 : va_up Il 186 (gN F B (Il 186) (pop F)) 177 = Il 177 := vu_ne (by decide)
  obtain ⟨Ir, r1, r2, r3, r4, r5⟩ := r_reckons (X := X) (d := d) (I := Io) (J := J) (s := s) (FS := F1) (F1 := F) (al := al) (B1 := B) (mks := mks) (by omega) hs (by rw [o78]; exact hS) (by rw [o8]; exact fw) (by rw [eIo, vu_eq, vu_eq]) (fun b hb => by rw [eIo, vu_ne (by decide), vu_eq]; unfold gN; rw [if_pos hb, nrP_all]) (by rw [o78]; exact hal) hal2 (fun k hk => by rw [o78]; exact hm k hk) hm4
  obtain ⟨n1, n2⟩ := near_cg (F1 := F) (F2 := F1) (al := al) (mks := mks) (B1 := B) (B1' := B) (B2 := f) (B2' := ly) (fun i hi => rfl) (fun i hi => p2 i (by omega))
  rw [o8, n1] at r2
  rw [o8, n2] at r3
  have r78 : Ir 178 = I 178 := by rw [r4 _ (by decide) (by decide)]; exact o78
  obtain ⟨bd, ebd⟩ : ∃ bd, bd = pop (badS F B F1 ly al mks) := ⟨_, rfl⟩
  obtain ⟨kp, ekp⟩ : ∃ kp, kp = twi F B F1 ly / 2 := ⟨_, rfl⟩
  rw [← ebd] at r2
  rw [← ekp] at r3
  obtain ⟨g, eg⟩ : ∃ g, g = va_up (va_up (va_up (va_up (Ir 184) 1 (nI yr)) 2 (nI (pop F1))) 3 (nI bd)) 4 (nI kp) := ⟨_, rfl⟩
  have mt := r_metN (X := X) (d := d) (I := va_up Ir 184 g) (J := J) (M := mtS fi) (by omega) (fun b hb => by rw [vu_ne (by decide), r78]; exact hM b hb) (fun b => bs_lt _)
  have mt : callF X d 228 [.ref 177] (mk (va_up Ir 184 g) J) = some (some (.int (nI (metN fi))), mk (va_up Ir 184 g) J) := mt
  obtain ⟨Iv, eIv⟩ : ∃ Iv, Iv = va_up Ir 184 (va_up g 5 (nI (metN fi))) := ⟨_, rfl⟩
  have vf : ∀ a, a ≠ 184 → Iv a = Ir a := fun a h => by rw [eIv, vu_ne h]
  have v78 : Iv 178 = I 178 := by rw [vf _ (by decide)]; exact r78
  have c77 : ∀ a, a < 177 → Iv a = I a := fun a ha => by rw [vf a (by omega), r4 a (by omega) (by omega), of a (by omega) (by omega), lf a (by omega) (by omega) (by omega)]
  have hv : ∀ o, o < 5 → Iv 184 (o + 1) = vsY yr F B F1 al mks x fi (o + 1) := fun o ho => by
    have e1 : ∀ j, Iv 184 j = va_up g 5 (nI (metN fi)) j := fun j => by rw [eIv, vu_eq]
    unfold vsY
    rw [e1, ept, ← ebd, ← ekp]
    rcases (by omega : o = 0 ∨ o = 1 ∨ o = 2 ∨ o = 3 ∨ o = 4) with q | q | q | q | q
    · subst q; rw [if_pos rfl, vu_ne (by decide), eg, vu_ne (by decide), vu_ne (by decide), vu_ne (by decide), vu_eq]
    · subst q; rw [if_neg (by decide), if_pos rfl, vu_ne (by decide), eg, vu_ne (by decide), vu_ne (by decide), vu_eq]
    · subst q; rw [if_neg (by decide), if_neg (by decide), if_pos rfl, vu_ne (by decide), eg, vu_ne (by decide), vu_eq]
    · subst q; rw [if_neg (by decide), if_neg (by decide), if_neg (by decide), if_pos rfl, vu_ne (by decide), eg, vu_eq]
    · subst q; rw [if_neg (by decide), if_neg (by decide), if_neg (by decide), if_neg (by decide), vu_eq]
  have hLv : LnY Iv k L sg wy := LnY_fr (by rw [c77 _ (by omega)]) (fun j h1 h2 => c77 _ (by omega)) (fun i hi => by rw [v78]) hL
  obtain ⟨fz, z1⟩ := r_lineLoop (X := X) (d := d) (I := Iv) (J := J) (k := k) (L := L) (R := 38 + 8 * k) (sg := sg) (vs := vsY yr F B F1 al mks x fi) (u2 := .int (nI s)) (n3 := nI n) (by omega) hk l1 hLv.2.2.1 (fun i hi => (hLv.2.2.2 i hi).1) hv (.retAddr 0)
  refine ⟨va_up Iv 183 fz, ?_, ?_⟩
  · refine callF_at (by omega) (by decide) (Nat.le_of_ble_eq_true rfl) (fun d' hd' => ?_)
    obtain rfl : d = d' := by omega
    show Ev X d 229 0 [.ref 177, .int (nI k), .int (nI s), .retAddr 0, .retAddr 0, .retAddr 0] [] (mk I J) _
    rw [eIv] at z1
    rw [eIv]
    rw [eIo] at r1
    have y3 : Ir 178 3 = nI yr := by rw [r78]; exact hy
    have y70 : Ir 178 (70 + s) = nI (pop F1) := by rw [r78]; exact c70
    rw [eg] at mt z1 ⊢
    simp (disch := first | omega | assumption | exact rfl) only [U_229_0, XX, QQ, WW, KK, QX, SHs, RRs, Nat.reduceAdd, Nat.reduceMul, Nat.reduceLeDiff, Nat.reduceEqDiff, List.length_cons, List.length_nil, decide_true, decide_false, Bool.true_and, Bool.and_true, Bool.false_and, Bool.and_false, false_and, and_false, Bool.false_eq_true, Bool.true_eq_false, reduceCtorEq, eq_self, if_true, if_false, true_and, and_true, not_true_eq_false, not_false_eq_true, if_pos, if_neg, z_ite_not, false_or, or_false, true_or, or_true, SWs, swk_0, swk_1, ga, p1, q1, w7, r1, y3, y70, r2, r3, mt]
    exact z1
  · refine ⟨fun a ha => by rw [vu_ne (by omega)]; exact c77 a ha, by rw [vu_ne (by decide)]; exact v78, ?_, ?_, fun k hk => ?_⟩
    · rw [vu_ne (by decide), vf _ (by decide), r4 _ (by decide) (by decide), of _ (by decide) (by decide), lf _ (by decide) (by decide) (by decide)]
    · rw [vu_ne (by decide), vf _ (by decide), r4 _ (by decide) (by decide), of _ (by decide) (by decide), lf _ (by decide) (by decide) (by decide)]
    · rw [vu_ne (by decide), vf _ (by decide), r5 k (by omega) (by omega) (by omega), o7 k (by omega), lf _ (by decide) (by decide) (by decide)]
