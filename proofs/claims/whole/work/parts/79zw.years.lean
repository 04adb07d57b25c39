/-! ===== years: what holds again ===== -/
theorem Inv_yr {I I1 I2 : Nat → Nat → Int32} {J J1 : Nat → Nat → Int64} {k : Nat} {s : YrS} (hk : k < 3) (h : Inv I J) (hC : CWY I1 J1 s) (hR : RWY I2 s) (hO : YOk s) (hy : s.2.2.2.2.1 ≤ 999) (fC : CFy k I I1 J J1) (fR : RFy I1 I2) (fr : ∀ a, 176 < a → I1 a = I a) : Inv I2 J1 := by
  obtain ⟨⟨⟨c0, al, be, yr, c1⟩, c2, c3, ⟨FW, c4⟩, c5, c6, c7⟩, ⟨pb, p1, p2, p3⟩, ⟨tl, t1, t2, t3, t4⟩, g1, g2⟩ := h
  obtain ⟨f1, f2, f3, f4⟩ := fC
  obtain ⟨r1, r2, r3⟩ := fR
  obtain ⟨x, F, B, fi, yr', h', hi⟩ := s
  obtain ⟨a1, a2, a3, a4, a5, a6, a7⟩ := hC
  obtain ⟨b1, b2, b3, b4, b5, b6, b7⟩ := hR
  obtain ⟨o1, o2, o3, o4, o5⟩ := hO
  dsimp only at a1 a2 a3 a4 a5 a6 a7 b1 b2 b3 b4 b5 b6 b7 o1 o2 o3 o4 o5 hy
  have hr : ∀ i, i ≠ 0 → i ≠ 3 → i ≠ 4 → ¬ inA 0 i → (i < 820 ∨ 4490 ≤ i) → I2 178 i = I 178 i := fun i h1 h2 h3 h4 h5 => by rw [r3 i h1 h2 h3 h4 h5, fr 178 (by decide)]
  have hI : ∀ a, a < 177 → I2 a = I1 a := fun a ha => r1 a (.inl ha)
  have hc : ∀ a, a ≠ 1 → a ≠ 38 + 8 * k → a ≠ 38 + 8 * k + 6 → a ≠ 38 + 8 * k + 7 → (a < 7 ∨ 17 < a) → a < 137 → I2 a = I a := fun a h1 h2 h3 h4 h5 h6 => by rw [hI a (by omega)]; exact f1 a h1 h2 h3 h4 h5 (.inl h6)
  have h7 : ∀ j, j < 22 → I2 177 j = I 177 j := fun j hj => by rw [r2 j hj, fr 177 (by decide)]
  have WB15 : WB (I2 15) (pop F) := by rw [hI 15 (by decide)]; exact WB_tr o2 a4 o1
  refine ⟨⟨⟨?_, al, be, yr', ?_⟩, ?_, ?_, ⟨fun a' => if a' = 0 then F else FW a', fun a' ha' => ?_⟩, ⟨fi, fun b c hb hc => ⟨o3.1 b c hb hc, b4 b c hb hc⟩, fun b hb => ⟨o3.2 b hb, b5 b hb⟩, fun b c hb hc => ?_, ?_⟩, ⟨h', o4, ?_, b6, fun y hy => ?_⟩, ?_⟩, ⟨pb, ?_, ?_, fun z => ?_⟩, ⟨tl, t1, ?_, ?_, fun i hi => ?_⟩, ?_, ?_⟩
  · show I2 1 0 = _; rw [hI 1 (by decide), a1, b1]
  · obtain ⟨x1, x2, x3, x4, x5, x6, x7, x8, x9⟩ := c1
    refine ⟨x1, x2, hy, ?_, ?_, ?_, ?_, ?_, b2⟩
    · show I2 1 1 = _; rw [hI 1 (by decide), f2 1 (by decide) (by decide) (by decide)]; exact x4
    · rw [hr 1 (by decide) (by decide) (by decide) (by unfold inA; omega) (by decide)]; exact x5
    · show I2 1 2 = _; rw [hI 1 (by decide), f2 2 (by decide) (by decide) (by decide)]; exact x6
    · rw [hr 2 (by decide) (by decide) (by decide) (by unfold inA; omega) (by decide)]; exact x7
    · show I2 1 3 = _; rw [hI 1 (by decide)]; exact a2
  · obtain ⟨mks, brk, q⟩ := c2
    refine ⟨mks, brk, fun j hj => ?_⟩
    rw [hc (2 + 0) (by omega) (by omega) (by omega) (by omega) (by omega) (by omega), hc (3 + 0) (by omega) (by omega) (by omega) (by omega) (by omega) (by omega), hr (10 + j) (by omega) (by omega) (by omega) (by unfold inA; omega) (by omega), hr (40 + j) (by omega) (by omega) (by omega) (by unfold inA; omega) (by omega)]
    exact q j hj
  · obtain ⟨FS, q⟩ := c3
    refine ⟨FS, fun s hs => ?_⟩
    obtain ⟨q1, q2, q3, q4, q5⟩ := q s hs
    refine ⟨q1, by rw [f4 _ (by omega) (by omega)]; exact q2, q3, ?_, fun i hi => ?_⟩
    · rw [hr _ (by omega) (by omega) (by omega) (by unfold inA; omega) (by omega)]; exact q4
    · rw [hr _ (by omega) (by omega) (by omega) (by unfold inA; omega) (by omega), hr _ (by omega) (by omega) (by omega) (by unfold inA; omega) (by omega)]; exact q5 i hi
  · by_cases e : a' = 0
    · subst e
      simp only [if_true]
      refine ⟨WG_fr a3 (fun a h1 h2 => hI a (by omega)) rfl, WB15, ?_⟩
      exact RWl_tr (by decide) (fun _ _ _ => rfl) (fun i hi => by show I2 15 i = _; rw [hI 15 (by decide)]; exact a4 i hi) b3
    · simp only [if_neg e]
      obtain ⟨w1, w2, w3⟩ := c4 a' ha'
      have ee : ∀ j, j ≤ 3 → I2 (14 + 4 * a' + 0 + j) = I (14 + 4 * a' + 0 + j) := fun j hj => hc _ (by omega) (by omega) (by omega) (by omega) (by omega) (by omega)
      refine ⟨WG_fr w1 (fun j k1 k2 => hc j (by omega) (by omega) (by omega) (by omega) (by omega) (by omega)) (f4 _ (by omega) (by omega)), ?_, ?_⟩
      · rw [ee 1 (by decide)]; exact w2
      · rw [ee 1 (by decide)]
        obtain ⟨y1, y2, y3, y4⟩ := w3
        refine ⟨y1, ?_, fun i hi => ?_, fun i hi => ?_⟩
        · rw [hr _ (by omega) (by omega) (by omega) (by unfold inA; omega) (by omega)]; exact y2
        · rw [hr _ (by omega) (by omega) (by omega) (by unfold inA; omega) (by omega), hr _ (by omega) (by omega) (by omega) (by unfold inA; omega) (by omega)]; exact y3 i hi
        · rw [hr _ (by omega) (by omega) (by omega) (by unfold inA; omega) (by omega)]; exact y4 i hi
  · show I2 7 (b * 24 + c) = _; rw [hI 7 (by decide)]; exact a5.1 b c hb hc
  · show I2 1 4 = _; rw [hI 1 (by decide)]; exact a5.2
  · show I2 8 0 = _; rw [hI 8 (by decide)]; exact a6
  · obtain ⟨q1, q2, q3, q4⟩ := a7 y hy
    have bb := b7 y hy
    refine ⟨?_, ?_, ?_, fun b hb => ⟨?_, ?_⟩⟩
    · show I2 9 y = _; rw [hI 9 (by decide), q1, ← bb 0 (by decide)]; rfl
    · show I2 10 y = _; rw [hI 10 (by decide), q2, ← bb 1 (by decide)]
    · show I2 11 y = _; rw [hI 11 (by decide), q3, ← bb 2 (by decide)]
    · obtain ⟨S, s1, s2⟩ := o5 y hy b hb
      refine ⟨S, s1, ?_, ?_⟩
      · show I2 12 (y * 24 + b) = _; rw [hI 12 (by decide), (q4 b hb).1]; exact s2
      · have := bb (3 + b) (by omega)
        rw [← Nat.add_assoc] at this
        rw [this]; exact s2
    · have := bb (27 + b) (by omega)
      rw [← Nat.add_assoc] at this
      show I2 13 (y * 24 + b) = _; rw [hI 13 (by decide), (q4 b hb).2, this]
  · refine WRu_tr (fun j hj => ?_) (fun j hj i _ => ⟨?_, ?_, ?_, ?_⟩) (fun j hj i _ => ?_) (fun i h1 _ => hr i (by omega) (by omega) (by omega) (by unfold inA; omega) (by omega)) c7
    · by_cases q : j = k
      · subst q; show I2 (38 + 8 * j) 0 = _; rw [hI _ (by omega)]; exact f3 0 (by decide)
      · rw [hc _ (by omega) (by omega) (by omega) (by omega) (by omega) (by omega)]
    all_goals rw [hc _ (by omega) (by omega) (by omega) (by omega) (by omega) (by omega)]
  · rw [hc _ (by decide) (by omega) (by omega) (by omega) (by decide) (by decide)]; exact p1
  · rw [h7 _ (by decide)]; exact p2
  · exact WRel_fr (fun a ha => WA_61 ha) (fun j _ _ => hc j (by omega) (by omega) (by omega) (by omega) (by omega) (by omega)) (fun j _ _ => f4 j (by omega) (by omega)) (by rw [r1 179 (by decide), fr 179 (by decide)]) (p3 z)
  · rw [hc _ (by decide) (by omega) (by omega) (by omega) (by decide) (by decide)]; exact t2
  · rw [h7 _ (by decide)]; exact t3
  · rw [hc _ (by decide) (by omega) (by omega) (by omega) (by decide) (by decide), r1 182 (by decide), fr 182 (by decide)]; exact t4 i hi
  · rw [hc _ (by decide) (by omega) (by omega) (by omega) (by decide) (by decide), h7 _ (by decide)]; exact g1
  · rw [hc _ (by decide) (by omega) (by omega) (by omega) (by decide) (by decide), h7 _ (by decide)]; exact g2
