/-! ===== text ===== -/
theorem segAt_mid {f : Nat → Int32} {A B C : List Int32} (h : segAt f 0 (A ++ (B ++ C))) : segAt f A.length B := by
  intro j hj
  have := h (A.length + j) (by rw [List.length_append, List.length_append]; omega)
  rw [Nat.zero_add] at this
  rw [this, List.getD_eq_getElem?_getD, List.getD_eq_getElem?_getD, List.getElem?_append_right (by omega), Nat.add_sub_cancel_left, List.getElem?_append_left hj]
theorem stpAt_mid {f g : Nat → Int32} {b : Nat} {A B C : List (Nat × Nat)} (h : stpAt f 0 0 (A ++ (B ++ C))) (hg : ∀ j, j < 2 * (A ++ (B ++ C)).length → g (b + j) = f j) : stpAt g b A.length B := by
  intro j hj
  have l : (A ++ (B ++ C)).length = A.length + (B.length + C.length) := by rw [List.length_append, List.length_append]
  have := h (A.length + j) (by omega)
  rw [Nat.zero_add, Nat.zero_add] at this
  have e : (A ++ (B ++ C)).getD (A.length + j) (0, 0) = B.getD j (0, 0) := by
    rw [List.getD_eq_getElem?_getD, List.getD_eq_getElem?_getD, List.getElem?_append_right (by omega), Nat.add_sub_cancel_left, List.getElem?_append_left hj]
  rw [e] at this
  rw [hg _ (by omega), Nat.add_assoc b, hg _ (by omega)]
  exact this
theorem lnD_cut {E : LnL} {i : Nat} (hi : i < E.length) : E = E.take i ++ (lnD E i :: E.drop (i + 1)) := by
  have e : lnD E i = E[i] := by unfold lnD; rw [List.getD_eq_getElem?_getD, List.getElem?_eq_getElem hi]; rfl
  rw [e, ← List.drop_eq_getElem_cons hi, List.take_append_drop]
theorem fltS_cut {E : LnL} {i : Nat} (hi : i < E.length) : fltS E = fltS (E.take i) ++ ((lnD E i).2.2 ++ fltS (E.drop (i + 1))) := by
  have e := congrArg fltS (lnD_cut hi)
  rw [fltS_app] at e
  exact e
theorem RuLine_tr {I I' : Nat → Nat → Int32} {R r k i : Nat} (hk : k < 3) (hi : i < 16) (hI : ∀ c, 1 ≤ c → c ≤ 5 → I' (R + c) = I (R + c)) (hr : ∀ x, 4500 + 16 * k ≤ x ∧ x < 4516 + 16 * k ∨ 4550 + 16 * k ≤ x ∧ x < 4566 + 16 * k ∨ 4600 + 16 * k ≤ x ∧ x < 4616 + 16 * k ∨ 4650 + 16 * k ≤ x ∧ x < 4666 + 16 * k ∨ 4700 + 820 * k ≤ x ∧ x < 5520 + 820 * k → I' r x = I r x) (h : RuLine I R r k i) : RuLine I' R r k i := by
  obtain ⟨way, by_, s, e, f, t, seg, q1, q2, q3, q4, q5, q6, q7, q8, q9, q10, q11, q12, q13, q14, q15⟩ := h
  refine ⟨way, by_, s, e, f, t, seg, q1, by rw [hI 1 (by decide) (by decide)]; exact q2, by rw [hr _ (by omega)]; exact q3, fun z => ?_, by rw [hI 3 (by decide) (by decide)]; exact q5, by rw [hI 4 (by decide) (by decide)]; exact q6, q7, by rw [hr _ (by omega)]; exact q8, by rw [hr _ (by omega)]; exact q9, q10, q11, q12, fun j hj => ?_, fun j hj => ?_, q15⟩
  · rw [hI 2 (by decide) (by decide), hr _ (by omega)]; exact q4 z
  · rw [hI 5 (by decide) (by decide)]; exact q13 j hj
  · rw [hr _ (by omega), hr _ (by omega)]; exact q14 j hj
section INVT
variable {I I' : Nat → Nat → Int32} {J J' : Nat → Nat → Int64}
theorem Inv_shp {k F : Nat} (hk : k < 6) (hF : F < 2 ^ 64) (h : Inv I J) (hI : ∀ a, 1 ≤ a → a ≤ 122 → I' a = I a) (hJ : ∀ a, 1 ≤ a → a ≤ 122 → a ≠ 4 → J' a = J a) (hJ4 : J' 4 = va_up (J 4) k (lN F)) (hR : RSh (I' 178) k F) (hr : ∀ x, ¬ inS k x → I' 178 x = I 178 x) (h9 : I' 179 = I 179) (h0 : I' 0 2 = I 0 2) (h7 : I' 177 2 = I 177 2) (ht : ∃ tl, tl ≤ 400 ∧ I' 0 4 = nI tl ∧ I' 177 12 = nI tl ∧ ∀ i, i < tl → ∃ c, c < 256 ∧ I' 123 i = nI c ∧ I' 182 i = nI c) (hf : I' 124 1 = I' 177 19) (hg : I' 124 2 = I' 177 21) : Inv I' J' := by
  obtain ⟨⟨w1, w2, ⟨FS, q⟩, w4, w5, w6, w7⟩, ⟨pb, a2, a3, a4⟩, _, _, _⟩ := h
  have lo : ∀ x, x < 70 → I' 178 x = I 178 x := fun x hx => hr x (by unfold inS; omega)
  have hi : ∀ x, 370 ≤ x → I' 178 x = I 178 x := fun x hx => hr x (by unfold inS; omega)
  refine ⟨⟨WSc_tr (fun i _ => by rw [hI _ (by omega) (by omega)]) (fun i hi => lo i (by omega)) w1, WMk_tr (fun i _ => ⟨by rw [hI _ (by omega) (by omega)], by rw [hI _ (by omega) (by omega)]⟩) (fun i h => lo i h) w2, ⟨fun s => if s = k then F else FS s, fun s hs => ?_⟩, WWl_tr (fun a ha => WA_0 ha) (fun a ha => by rw [hJ _ (by omega) (by omega) (by omega)]) (fun a ha => ⟨by rw [hI _ (by omega) (by omega)], fun i _ => by rw [hI _ (by omega) (by omega)], fun i _ => by rw [hI _ (by omega) (by omega)], fun i _ => by rw [hI _ (by omega) (by omega)]⟩) (fun i h1 h2 => hi i h1) w4, WMt_tr (by rw [hI _ (by omega) (by omega)]) (fun i _ => by rw [hI _ (by omega) (by omega)]) (fun i h1 _ => hi i (by omega)) w5, WHi_tr (by rw [hI _ (by omega) (by omega)]) (fun i _ => ⟨by rw [hI _ (by omega) (by omega)], by rw [hI _ (by omega) (by omega)], by rw [hI _ (by omega) (by omega)]⟩) (fun i _ => ⟨by rw [hI _ (by omega) (by omega)], by rw [hI _ (by omega) (by omega)]⟩) (lo 4 (by decide)) (fun i h1 _ => hi i (by omega)) w6, WRu_tr (fun k _ => by rw [hI _ (by omega) (by omega)]) (fun k _ i _ => ⟨by rw [hI _ (by omega) (by omega)], by rw [hI _ (by omega) (by omega)], by rw [hI _ (by omega) (by omega)], by rw [hI _ (by omega) (by omega)]⟩) (fun k _ i _ => by rw [hI _ (by omega) (by omega)]) (fun i h1 _ => hi i (by omega)) w7⟩, ⟨pb, by rw [h0]; exact a2, by rw [h7]; exact a3, fun z => WRel_fr (fun a ha => WA_61 ha) (fun k _ _ => hI k (by omega) (by omega)) (fun k _ _ => hJ k (by omega) (by omega) (by omega)) h9 (a4 z)⟩, ht, hf, hg⟩
  by_cases z : s = k
  · subst z
    dsimp only
    rw [if_pos rfl]
    exact ⟨hF, by rw [Nat.add_zero, hJ4, vu_eq], hR⟩
  · dsimp only
    rw [if_neg z]
    obtain ⟨q1, q2, q3, q4, q5⟩ := q s hs
    refine ⟨q1, by rw [Nat.add_zero, hJ4, vu_ne z]; exact q2, q3, by rw [hr _ (by unfold inS; omega)]; exact q4, fun i hi => ?_⟩
    rw [hr _ (by unfold inS; omega), hr _ (by unfold inS; omega)]
    exact q5 i hi
theorem Inv_rul {j : Nat} (hj : j < 3) (h : Inv I J) (hI : ∀ a, 1 ≤ a → a ≤ 122 → a < 38 + 8 * j ∨ 38 + 8 * j + 5 < a → I' a = I a) (hL : ∃ L, L ≤ 16 ∧ I' (38 + 8 * j) 0 = nI L ∧ I' 178 (4490 + j) = nI L ∧ ∀ i, i < L → RuLine I' (38 + 8 * j) 178 j i) (hr : ∀ x, ¬ inR j x → I' 178 x = I 178 x) (h9 : I' 179 = I 179) (h0 : I' 0 2 = I 0 2) (h7 : I' 177 2 = I 177 2) (ht : ∃ tl, tl ≤ 400 ∧ I' 0 4 = nI tl ∧ I' 177 12 = nI tl ∧ ∀ i, i < tl → ∃ c, c < 256 ∧ I' 123 i = nI c ∧ I' 182 i = nI c) (hf : I' 124 1 = I' 177 19) (hg : I' 124 2 = I' 177 21) : Inv I' J := by
  obtain ⟨⟨w1, w2, w3, w4, w5, w6, w7⟩, ⟨pb, a2, a3, a4⟩, _, _, _⟩ := h
  have lo : ∀ x, x < 4490 → I' 178 x = I 178 x := fun x hx => hr x (by unfold inR; omega)
  refine ⟨⟨WSc_tr (fun i _ => by rw [hI _ (by omega) (by omega) (by omega)]) (fun i hi => lo i (by omega)) w1, WMk_tr (fun i _ => ⟨by rw [hI _ (by omega) (by omega) (by omega)], by rw [hI _ (by omega) (by omega) (by omega)]⟩) (fun i h => lo i (by omega)) w2, WSh_tr (fun i _ => rfl) (fun i h => lo i (by omega)) w3, WWl_tr (fun a ha => WA_0 ha) (fun a ha => rfl) (fun a ha => ⟨by rw [hI _ (by omega) (by omega) (by omega)], fun i _ => by rw [hI _ (by omega) (by omega) (by omega)], fun i _ => by rw [hI _ (by omega) (by omega) (by omega)], fun i _ => by rw [hI _ (by omega) (by omega) (by omega)]⟩) (fun i h1 h2 => lo i (by omega)) w4, WMt_tr (by rw [hI _ (by omega) (by omega) (by omega)]) (fun i _ => by rw [hI _ (by omega) (by omega) (by omega)]) (fun i h1 _ => lo i (by omega)) w5, WHi_tr (by rw [hI _ (by omega) (by omega) (by omega)]) (fun i _ => ⟨by rw [hI _ (by omega) (by omega) (by omega)], by rw [hI _ (by omega) (by omega) (by omega)], by rw [hI _ (by omega) (by omega) (by omega)]⟩) (fun i _ => ⟨by rw [hI _ (by omega) (by omega) (by omega)], by rw [hI _ (by omega) (by omega) (by omega)]⟩) (lo 4 (by decide)) (fun i h1 _ => lo i (by omega)) w6, fun k hk => ?_⟩, ⟨pb, by rw [h0]; exact a2, by rw [h7]; exact a3, fun z => WRel_fr (fun a ha => WA_61 ha) (fun k _ _ => hI k (by omega) (by omega) (by omega)) (fun k _ _ => rfl) h9 (a4 z)⟩, ht, hf, hg⟩
  by_cases z : k = j
  · subst z
    rw [Nat.add_zero]
    exact hL
  · rw [Nat.add_zero]
    obtain ⟨L, l1, l2, l3, l4⟩ := w7 k hk
    rw [Nat.add_zero] at l2 l4
    refine ⟨L, l1, by rw [hI _ (by omega) (by omega) (by omega)]; exact l2, by rw [hr _ (by unfold inR; omega)]; exact l3, fun i hi => ?_⟩
    exact RuLine_tr hk (by omega) (fun c c1 c2 => hI _ (by omega) (by omega) (by omega)) (fun x hx => hr x (by unfold inR; omega)) (l4 i hi)
end INVT
theorem tp_of {I : Nat → Nat → Int32} {tl : Nat} (h : ∀ i, i < tl → ∃ c, c < 256 ∧ I 123 i = nI c ∧ I 182 i = nI c) : ∃ tp : Nat → Nat, ∀ i, i < tl → tp i < 256 ∧ I 123 i = nI (tp i) ∧ I 182 i = nI (tp i) := by
  refine ⟨fun i => if z : i < tl then Classical.choose (h i z) else 0, fun i hi => ?_⟩
  have := Classical.choose_spec (h i hi)
  dsimp only
  rw [dif_pos hi]
  exact this
section TXB
variable {X : Nat × (Nat → Int32)} {d : Nat} {I : Nat → Nat → Int32} {J : Nat → Nat → Int64} {tp : Nat → Nat} {tl k : Nat}
/-- the row's fields when a text is read -/
def rfd (f : Nat → Int32) (v w : Int32) : Nat → Int32 := va_up (va_up (va_up f 12 (nI 0)) 19 v) 21 w
theorem rfd_f {f : Nat → Int32} {v w : Int32} : rfd f v w 12 = nI 0 ∧ rfd f v w 19 = v ∧ rfd f v w 21 = w ∧ rfd f v w 2 = f 2 := by
  unfold rfd
  refine ⟨?_, ?_, ?_, ?_⟩
  · rw [vu_ne (by decide), vu_ne (by decide), vu_eq]
  · rw [vu_ne (by decide), vu_eq]
  · rw [vu_eq]
  · rw [vu_ne (by decide), vu_ne (by decide), vu_ne (by decide)]
theorem CXf_T {I I1 : Nat → Nat → Int32} (hc : CXf I I1) (h12 : I 177 12 = nI tl) (h4 : tl ≤ 400) (ht : ∀ i, i < tl → tp i < 256 ∧ I 123 i = nI (tp i) ∧ I 182 i = nI (tp i)) : RTp I1 tp tl := ⟨h4, by rw [hc.1 177 (by decide) (by omega)]; exact h12, fun i hi => ⟨(ht i hi).1, by rw [hc.1 182 (by decide) (by omega)]; exact (ht i hi).2.2⟩⟩
theorem b_tx0 {v : Int32} (hd : 2 ≤ d) (h : Inv I J) (o1 : (decide (0 ≤ v) && decide (v < nI 9)) = false) (o2 : (decide (nI 0 ≤ v) && decide (v ≤ nI 8)) = false) : Both X d 117 183 [.int v] I J := by
  obtain ⟨c1, c2, c3, c4⟩ := tx0_f (I := I)
  refine ⟨-1, _, J, _, c_tx0 hd o1, r_tx0 hd o2, ?_⟩
  have r2 : ∀ a, a ≠ 177 → va_up (tx0 I) 177 (va_up (va_up (va_up (va_up (tx0 I 177) 17 (nI 0)) 12 (nI 0)) 19 (nI 0)) 21 (-1)) a = tx0 I a := fun a ha => vu_ne ha
  refine Inv_w h (fun a x y => (r2 a (by omega)).trans (c1.1 a x (by omega))) (fun a _ _ => rfl) ((r2 _ (by decide)).trans (c1.1 _ (by decide) (by omega))) ((r2 _ (by decide)).trans (c1.1 _ (by decide) (by omega))) ?_ ?_ ⟨0, by decide, ?_, ?_, fun i hi => absurd hi (Nat.not_lt_zero i)⟩ ?_ ?_
  · rw [r2 _ (by decide)]; exact c1.2.1 2 (by decide)
  · rw [vu_eq, vu_ne (by decide), vu_ne (by decide), vu_ne (by decide), vu_ne (by decide), c1.1 177 (by decide) (by omega)]
  · rw [r2 _ (by decide)]; exact c1.2.2
  · rw [vu_eq, vu_ne (by decide), vu_ne (by decide), vu_eq]
  · rw [r2 _ (by decide), vu_eq, vu_ne (by decide), vu_eq]; exact c2
  · rw [r2 _ (by decide), vu_eq, vu_eq]; exact c3
theorem b_txF {kk p : Nat} (hd : 18 ≤ d) (h : Inv I J) (hk : k < 6) (h4 : I 0 4 = nI tl) (h12 : I 177 12 = nI tl) (l4 : tl ≤ 400) (ht : ∀ i, i < tl → tp i < 256 ∧ I 123 i = nI (tp i) ∧ I 182 i = nI (tp i)) (hc : CTf X tp tl 0 0 0 kk p) (hr : RTf X tp tl 0 0 0 kk p) : Both X d 117 183 [.int (nI k)] I J := by
  obtain ⟨I1, J1, e1, c1, c2, c3, g1⟩ := c_txF (X := X) (d := d) (J := J) (by omega) hk h4 ⟨l4, fun i hi => ⟨(ht i hi).1, (ht i hi).2.1⟩⟩ hc
  obtain ⟨d, rfl⟩ : ∃ d', d = d' + 1 := ⟨d - 1, by omega⟩
  obtain ⟨I3, f1, f2, T, a17, a9, a10, a11, gr, cu, H⟩ := r_start (X := X) (d := d) (J := J1) (k := k) (by omega) (by omega) (CXf_T c1 h12 l4 ht)
  rw [decide_eq_true hk] at cu
  obtain ⟨I4, q4, H4⟩ := hr d I3 J1 k (by omega) hk ⟨T, ⟨k, hk, a9⟩, cu, Nat.zero_le _⟩ gr a10
  refine ⟨-1, I1, J1, va_up I4 177 (rfd (I4 177) (I4 177 17) (I4 177 18)), e1, H _ (H4 _ r_endF), ?_⟩
  have r2 : ∀ a, a ≠ 177 → va_up I4 177 (rfd (I4 177) (I4 177 17) (I4 177 18)) a = I4 a := fun a ha => vu_ne ha
  have r4 : ∀ a, a ≠ 177 → a ≠ 180 → a ≠ 181 → a ≠ 185 → va_up I4 177 (rfd (I4 177) (I4 177 17) (I4 177 18)) a = I1 a := fun a x y z w => (r2 a x).trans ((q4.1 a x y z w).trans (f1 a x w))
  obtain ⟨b1, b2, b3, b4⟩ := rfd_f (f := I4 177) (v := I4 177 17) (w := I4 177 18)
  refine Inv_w h (fun a x y => (r4 a (by omega) (by omega) (by omega) (by omega)).trans (c1.1 a x (by omega))) (fun a x y => g1 a (by omega)) ((r4 _ (by decide) (by decide) (by decide) (by decide)).trans (c1.1 _ (by decide) (by omega))) ((r4 _ (by decide) (by decide) (by decide) (by decide)).trans (c1.1 _ (by decide) (by omega))) ?_ ?_ ⟨0, by decide, ?_, ?_, fun i hi => absurd hi (Nat.not_lt_zero i)⟩ ?_ ?_
  · rw [r4 _ (by decide) (by decide) (by decide) (by decide)]; exact c1.2.1 2 (by decide)
  · rw [vu_eq, b4, q4.2.1 2 (by omega), f2 2 (by omega), c1.1 177 (by decide) (by omega)]
  · rw [r4 _ (by decide) (by decide) (by decide) (by decide)]; exact c1.2.2
  · rw [vu_eq]; exact b1
  · rw [r4 _ (by decide) (by decide) (by decide) (by decide), vu_eq, b2, c2, q4.2.2.1]
  · rw [r4 _ (by decide) (by decide) (by decide) (by decide), vu_eq, b3, c3, q4.2.2.2]
theorem b_txT {F : Nat} (hd : 18 ≤ d) (h : Inv I J) (hk : k < 6) (h4 : I 0 4 = nI tl) (h12 : I 177 12 = nI tl) (l4 : tl ≤ 400) (ht : ∀ i, i < tl → tp i < 256 ∧ I 123 i = nI (tp i) ∧ I 182 i = nI (tp i)) (hF : F < 2 ^ 64) (hp : pop F ≤ 24) (hc : CTt X tp tl 0 0 0 F) (hr : RTt X tp tl 0 0 0 F) : Both X d 117 183 [.int (nI k)] I J := by
  obtain ⟨I1, J1, e1, c1, c2, c3, g1, j4⟩ := c_txT (X := X) (d := d) (J := J) (by omega) hk h4 ⟨l4, fun i hi => ⟨(ht i hi).1, (ht i hi).2.1⟩⟩ hF hc
  obtain ⟨d, rfl⟩ : ∃ d', d = d' + 1 := ⟨d - 1, by omega⟩
  obtain ⟨I3, f1, f2, T, a17, a9, a10, a11, gr, cu, H⟩ := r_start (X := X) (d := d) (J := J1) (k := k) (by omega) (by omega) (CXf_T c1 h12 l4 ht)
  rw [decide_eq_true hk] at cu
  obtain ⟨I4, q4, g4, H4⟩ := hr d I3 J1 k (by omega) hk ⟨T, ⟨k, hk, a9⟩, cu, Nat.zero_le _⟩ gr a10
  obtain ⟨g, e5, rs, rf⟩ := r_184 (X := X) (d := d) (I := va_up I4 177 (rfd (I4 177) (I4 177 17) (-1))) (J := J1) (k := k) (by omega) hk (fun q hq => by rw [vu_ne (by decide)]; exact g4 q hq) hp
  refine ⟨nI (pop F), I1, J1, va_up (va_up I4 177 (rfd (I4 177) (I4 177 17) (-1))) 178 g, e1, H _ (H4 _ (r_endT hk e5)), ?_⟩
  have r4 : ∀ a, a ≠ 177 → a ≠ 178 → a ≠ 180 → a ≠ 181 → a ≠ 185 → va_up (va_up I4 177 (rfd (I4 177) (I4 177 17) (-1))) 178 g a = I1 a := fun a x u y z w => (vu_ne u).trans ((vu_ne x).trans ((q4.1 a x y z w).trans (f1 a x w)))
  have r7 : va_up (va_up I4 177 (rfd (I4 177) (I4 177 17) (-1))) 178 g 177 = rfd (I4 177) (I4 177 17) (-1) := by rw [vu_ne (by decide), vu_eq]
  obtain ⟨b1, b2, b3, b4⟩ := rfd_f (f := I4 177) (v := I4 177 17) (w := -1)
  have e178 : va_up I4 177 (rfd (I4 177) (I4 177 17) (-1)) 178 = I 178 := (vu_ne (by decide)).trans ((q4.1 178 (by decide) (by decide) (by decide) (by decide)).trans ((f1 178 (by decide) (by decide)).trans (c1.1 178 (by decide) (by omega))))
  rw [e178] at rf
  refine Inv_shp hk hF h (fun a x y => (r4 a (by omega) (by omega) (by omega) (by omega) (by omega)).trans (c1.1 a x (by omega))) (fun a x y z => g1 a (by omega) z) j4 ?_ (fun x hx => ?_) ((r4 _ (by decide) (by decide) (by decide) (by decide) (by decide)).trans (c1.1 _ (by decide) (by omega))) ?_ ?_ ⟨0, by decide, ?_, ?_, fun i hi => absurd hi (Nat.not_lt_zero i)⟩ ?_ ?_
  · rw [vu_eq]; exact rs
  · rw [vu_eq]; exact rf x hx
  · rw [r4 _ (by decide) (by decide) (by decide) (by decide) (by decide)]; exact c1.2.1 2 (by decide)
  · rw [r7, b4, q4.2 2 (by omega), f2 2 (by omega), c1.1 177 (by decide) (by omega)]
  · rw [r4 _ (by decide) (by decide) (by decide) (by decide) (by decide)]; exact c1.2.2
  · rw [r7]; exact b1
  · rw [r4 _ (by decide) (by decide) (by decide) (by decide) (by decide), r7, b2, c2, q4.2 17 (by omega), a17]
  · rw [r4 _ (by decide) (by decide) (by decide) (by decide) (by decide), r7, b3, c3]
theorem RPs_st {I3 : Nat → Nat → Int32} (hk : 6 ≤ k) (hk9 : k < 9) (T : RTp I3 tp tl) (a9 : I3 177 9 = nI k) (a11 : I3 177 11 = nI 0) (cu : RCur I3 tp tl (decide (k < 6)) 0) (o : Nat) (h20 : I3 177 20 = nI o) : RPs I3 tp tl 0 (fltS []) o := by
  rw [decide_eq_false (by omega)] at cu
  exact ⟨T, ⟨k, hk, hk9, a9⟩, cu, Nat.zero_le _, a11, fun j hj => absurd hj (Nat.not_lt_zero j), h20⟩
theorem b_txF2 {kk p : Nat} (hd : 48 ≤ d) (h : Inv I J) (hk : 6 ≤ k) (hk9 : k < 9) (h4 : I 0 4 = nI tl) (h12 : I 177 12 = nI tl) (l4 : tl ≤ 400) (ht : ∀ i, i < tl → tp i < 256 ∧ I 123 i = nI (tp i) ∧ I 182 i = nI (tp i)) (hc : CRf X tp tl 0 0 kk p) (hr : RRf X tp tl 0 0 kk p) : Both X d 117 183 [.int (nI k)] I J := by
  obtain ⟨I1, e1, c1, c2, c3⟩ := c_txF2 (X := X) (d := d) (J := J) (by omega) hk hk9 h4 ⟨l4, fun i hi => ⟨(ht i hi).1, (ht i hi).2.1⟩⟩ hc
  obtain ⟨d, rfl⟩ : ∃ d', d = d' + 1 := ⟨d - 1, by omega⟩
  obtain ⟨I3, f1, f2, T, a17, a9, a10, a11, gr, cu, H⟩ := r_start (X := X) (d := d) (J := J) (k := k) (by omega) hk9 (CXf_T c1 h12 l4 ht)
  obtain ⟨o, _, eo⟩ := wb_of32 (I3 177 20)
  obtain ⟨I4, q4, H4⟩ := hr d I3 J [] o k (by omega) hk hk9 rfl (RPs_st hk hk9 T a9 a11 cu o eo) (Nat.zero_le _) a10 (fun i hi => absurd hi (Nat.not_lt_zero i))
  refine ⟨-1, I1, J, va_up I4 177 (rfd (I4 177) (I4 177 17) (I4 177 18)), e1, H _ (H4 _ r_endF), ?_⟩
  have r4 : ∀ a, a ≠ 177 → a ≠ 180 → a ≠ 181 → a ≠ 185 → va_up I4 177 (rfd (I4 177) (I4 177 17) (I4 177 18)) a = I1 a := fun a x y z w => (vu_ne x).trans ((q4.1 a x y z).trans (f1 a x w))
  obtain ⟨b1, b2, b3, b4⟩ := rfd_f (f := I4 177) (v := I4 177 17) (w := I4 177 18)
  refine Inv_w h (fun a x y => (r4 a (by omega) (by omega) (by omega) (by omega)).trans (c1.1 a x (by omega))) (fun a x y => rfl) ((r4 _ (by decide) (by decide) (by decide) (by decide)).trans (c1.1 _ (by decide) (by omega))) ((r4 _ (by decide) (by decide) (by decide) (by decide)).trans (c1.1 _ (by decide) (by omega))) ?_ ?_ ⟨0, by decide, ?_, ?_, fun i hi => absurd hi (Nat.not_lt_zero i)⟩ ?_ ?_
  · rw [r4 _ (by decide) (by decide) (by decide) (by decide)]; exact c1.2.1 2 (by decide)
  · rw [vu_eq, b4, q4.2.1 2 (by omega), f2 2 (by omega), c1.1 177 (by decide) (by omega)]
  · rw [r4 _ (by decide) (by decide) (by decide) (by decide)]; exact c1.2.2
  · rw [vu_eq]; exact b1
  · rw [r4 _ (by decide) (by decide) (by decide) (by decide), vu_eq, b2, c2, q4.2.2.1]
  · rw [r4 _ (by decide) (by decide) (by decide) (by decide), vu_eq, b3, c3, q4.2.2.2]
theorem b_txT2 {m' j : Nat} {E : LnL} (hd : 48 ≤ d) (h : Inv I J) (ej : k = j + 6) (hj : j < 3) (h4 : I 0 4 = nI tl) (h12 : I 177 12 = nI tl) (l4 : tl ≤ 400) (ht : ∀ i, i < tl → tp i < 256 ∧ I 123 i = nI (tp i) ∧ I 182 i = nI (tp i)) (hL : E.length ≤ 16) (hS : (segC (fltS E)).length ≤ 400) (hE : ∀ q, q ∈ E → lnOk q) (hc : CRt X tp tl 0 0 m' E) (hr : RRt X tp tl 0 0 m' E) : Both X d 117 183 [.int (nI k)] I J := by
  obtain ⟨I0, I1, e1, c1, c2, c3, cp, cd_, u0, ui, u5, uf⟩ := c_txT2 (X := X) (d := d) (J := J) (by omega) ej hj h4 ⟨l4, fun i hi => ⟨(ht i hi).1, (ht i hi).2.1⟩⟩ hc
  obtain ⟨d, rfl⟩ : ∃ d', d = d' + 1 := ⟨d - 1, by omega⟩
  have hk : 6 ≤ k := by omega
  have hk9 : k < 9 := by omega
  have T1 : RTp I1 tp tl := ⟨l4, by rw [uf 177 (by omega), c1.1 177 (by decide) (by omega)]; exact h12, fun i hi => ⟨(ht i hi).1, by rw [uf 182 (by omega), c1.1 182 (by decide) (by omega)]; exact (ht i hi).2.2⟩⟩
  obtain ⟨I3, f1, f2, T, a17, a9, a10, a11, gr, cu, H⟩ := r_start (X := X) (d := d) (J := J) (k := k) (by omega) hk9 T1
  obtain ⟨o, _, eo⟩ := wb_of32 (I3 177 20)
  obtain ⟨I4, o', q4, p4, z10, rd, H4⟩ := hr d I3 J [] o k (by omega) hk hk9 rfl (RPs_st hk hk9 T a9 a11 cu o eo) (Nat.zero_le _) a10 (fun i hi => absurd hi (Nat.not_lt_zero i))
  rw [List.nil_append] at p4 rd
  rw [Nat.zero_add] at z10
  obtain ⟨v1, v2, v3, v4, v11, vst, v20⟩ := p4
  have lQ : (fltS E).length ≤ 400 := Nat.le_trans (segC_l _) hS
  obtain ⟨I5, e5⟩ : ∃ I5, I5 = va_up I4 177 (rfd (I4 177) (I4 177 17) (-1)) := ⟨_, rfl⟩
  have g5 : ∀ a, a ≠ 177 → I5 a = I4 a := fun a ha => by rw [e5]; exact vu_ne ha
  have g7 : I5 177 = rfd (I4 177) (I4 177 17) (-1) := by rw [e5, vu_eq]
  have w10 : I5 177 10 = nI E.length := by rw [g7]; unfold rfd; rw [vu_ne (by decide), vu_ne (by decide), vu_ne (by decide)]; exact z10
  have w11 : I5 177 11 = nI (fltS E).length := by rw [g7]; unfold rfd; rw [vu_ne (by decide), vu_ne (by decide), vu_ne (by decide)]; exact v11
  obtain ⟨g, e6, k0, kl, ks, kf⟩ := r_185 (X := X) (d := d) (I := I5) (J := J) (k := j) (by omega) hj hL lQ w10 w11
  have E6 : callF X d 185 [.ref 177, .int (nI j)] (mk (va_up I4 177 (va_up (va_up (va_up (I4 177) 12 (nI 0)) 19 (I4 177 17)) 21 (-1))) J) = some (some (.int (nI E.length)), mk (va_up (va_up I4 177 (va_up (va_up (va_up (I4 177) 12 (nI 0)) 19 (I4 177 17)) 21 (-1))) 178 g) J) := by rw [e5] at e6; exact e6
  obtain ⟨I6, e7⟩ : ∃ I6, I6 = va_up I5 178 g := ⟨_, rfl⟩
  have fin := H _ (H4 _ (r_endT2 hj ej E6))
  rw [show va_up (va_up I4 177 (va_up (va_up (va_up (I4 177) 12 (nI 0)) 19 (I4 177 17)) 21 (-1))) 178 g = I6 by rw [e7, e5]; rfl] at fin
  refine ⟨nI E.length, I1, J, I6, e1, fin, ?_⟩
  have r4 : ∀ a, a ≠ 177 → a ≠ 178 → a ≠ 180 → a ≠ 181 → a ≠ 185 → I6 a = I1 a := fun a x u y z w => by rw [e7, vu_ne u, g5 a x, q4.1 a x y z, f1 a x w]
  have r0 : ∀ a, 1 ≤ a → a < 38 + 8 * j ∨ 38 + 8 * j + 5 < a → a < 124 ∨ 136 < a → a ≠ 177 → a ≠ 178 → a ≠ 180 → a ≠ 181 → a ≠ 185 → I6 a = I a := fun a x0 x1 x2 x u y z w => by rw [r4 a x u y z w, uf a x1, c1.1 a x0 x2]
  have r7 : I6 177 = rfd (I4 177) (I4 177 17) (-1) := by rw [e7, vu_ne (by decide), g7]
  have r8 : I6 178 = g := by rw [e7, vu_eq]
  have e178 : I5 178 = I 178 := by rw [g5 178 (by decide), q4.1 178 (by decide) (by decide) (by decide), f1 178 (by decide) (by decide), uf 178 (by omega), c1.1 178 (by decide) (by omega)]
  have e180 : I5 180 = I4 180 := g5 180 (by decide)
  have e181 : I5 181 = I4 181 := g5 181 (by decide)
  rw [e178] at kf
  rw [e181] at ks
  obtain ⟨b1, b2, b3, b4⟩ := rfd_f (f := I4 177) (v := I4 177 17) (w := -1)
  refine Inv_rul hj h (fun a x y z => r0 a x z (by omega) (by omega) (by omega) (by omega) (by omega) (by omega)) ⟨E.length, hL, ?_, ?_, fun i hi => ?_⟩ (fun x hx => ?_) (r0 179 (by decide) (by omega) (by omega) (by decide) (by decide) (by decide) (by decide) (by decide)) ?_ ?_ ⟨0, by decide, ?_, ?_, fun i hi => absurd hi (Nat.not_lt_zero i)⟩ ?_ ?_
  · rw [r4 _ (by omega) (by omega) (by omega) (by omega) (by omega), u0]; exact cd_.1
  · rw [r8]; exact k0
  · obtain ⟨i1, i2, i3, i4⟩ := cd_.2 i hi
    obtain ⟨j1, j2, j3, j4⟩ := rd i hi
    obtain ⟨k1, k2, k3, k4⟩ := kl i hi
    rw [e180] at k1 k2 k3 k4
    obtain ⟨t1, t2, t3, t4⟩ := ui i (by omega)
    have hm : lnOk (lnD E i) := by
      apply hE
      have : lnD E i = E[i] := by unfold lnD; rw [List.getD_eq_getElem?_getD, List.getElem?_eq_getElem hi]; rfl
      rw [this]; exact List.getElem_mem hi
    obtain ⟨m1, m2, m3⟩ := hm
    have cut := fltS_cut hi
    have cutL : (fltS E).length = (fltS (E.take i)).length + ((lnD E i).2.2.length + (fltS (E.drop (i + 1))).length) := by rw [congrArg List.length cut, List.length_append, List.length_append]
    have cutC : segC (fltS E) = segC (fltS (E.take i)) ++ (segC (lnD E i).2.2 ++ segC (fltS (E.drop (i + 1)))) := by rw [congrArg segC cut, segC_app, segC_app]
    have cutS : (segC (fltS E)).length = (segC (fltS (E.take i))).length + ((segC (lnD E i).2.2).length + (segC (fltS (E.drop (i + 1)))).length) := by rw [cutC, List.length_append, List.length_append]
    have sg := cp.2.2.2.2.2.2.1
    rw [cutC] at sg
    have sg2 := segAt_mid sg
    have st2 := stpAt_mid (g := g) (b := 4700 + 820 * j) (by rw [← cut]; exact vst) (by rw [← cut]; exact ks)
    have R : ∀ c, c ≤ 5 → I6 (38 + 8 * j + c) = I1 (38 + 8 * j + c) := fun c hc => r4 _ (by omega) (by omega) (by omega) (by omega) (by omega)
    refine ⟨(lnD E i).1, (lnD E i).2.1, (segC (fltS (E.take i))).length, (segC (fltS (E.take i))).length + (segC (lnD E i).2.2).length, (fltS (E.take i)).length, (fltS (E.take i)).length + (lnD E i).2.2.length, (lnD E i).2.2, m1, ?_, ?_, fun z => ⟨m2, ?_, ?_⟩, ?_, ?_, by omega, ?_, ?_, by omega, rfl, rfl, fun q hq => ?_, ?_, m3⟩
    · rw [R 1 (by decide), t1]; exact i1
    · rw [r8, k1]; exact j1
    · rw [R 2 (by decide), t2]; exact i2
    · rw [r8, k2]; exact j2 z
    · rw [R 3 (by decide), t3]; exact i3
    · rw [R 4 (by decide), t4]; exact i4
    · rw [r8, k3]; exact j3
    · rw [r8, k4]; exact j4
    · rw [R 5 (by decide), u5 _ (by omega)]; exact sg2 q hq
    · rw [r8]; exact st2
  · rw [r8]; exact kf x hx
  · rw [r4 _ (by decide) (by decide) (by decide) (by decide) (by decide), uf 0 (by omega)]; exact c1.2.1 2 (by decide)
  · rw [r7, b4, q4.2 2 (by omega), f2 2 (by omega), uf 177 (by omega), c1.1 177 (by decide) (by omega)]
  · rw [r4 _ (by decide) (by decide) (by decide) (by decide) (by decide), uf 0 (by omega)]; exact c1.2.2
  · rw [r7]; exact b1
  · rw [r4 _ (by decide) (by decide) (by decide) (by decide) (by decide), uf 124 (by omega), r7, b2, c2, q4.2 17 (by omega), a17]
  · rw [r4 _ (by decide) (by decide) (by decide) (by decide) (by decide), uf 124 (by omega), r7, b3, c3]
theorem b_text {v : Int32} (hd : 48 ≤ d) (h : Inv I J) : Both X d 117 183 [.int v] I J := by
  obtain ⟨_, _, ⟨tl, l4, h4, h12, ht⟩, _, _⟩ := id h
  obtain ⟨tp, ht⟩ := tp_of ht
  rcases of_d v 8 9 rfl (by decide) with ⟨k, hk9, rfl⟩ | ⟨o1, o2⟩
  · by_cases hk : k < 6
    · rcases shape_ (X := X) (tp := tp) (tl := tl) (tkT tp tl) 0 0 0 (by omega) (Nat.zero_le _) (by decide) (by decide) (by rw [pop_0]; decide) with ⟨kk, p, a, b⟩ | ⟨F, hF, hp, a, b⟩
      · exact b_txF (by omega) h hk h4 h12 l4 ht a b
      · exact b_txT (by omega) h hk h4 h12 l4 ht hF hp a b
    · obtain ⟨j, ej⟩ : ∃ j, k = j + 6 := ⟨k - 6, by omega⟩
      rcases rule_ (X := X) (tp := tp) (tl := tl) (tkT tp tl) 0 0 (by omega) (Nat.zero_le _) (by decide) with ⟨kk, p, a, b⟩ | ⟨m', E, m1, m2, m3, m4, a, b⟩
      · exact b_txF2 hd h (by omega) hk9 h4 h12 l4 ht a b
      · have t1 := (tkT_s (tp := tp) (tl := tl)).1
        exact b_txT2 hd h ej (by omega) h4 h12 l4 ht (by omega) (by omega) m4 a b
  · exact b_tx0 (by omega) h o1 o2
end TXB
