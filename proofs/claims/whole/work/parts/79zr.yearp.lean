/-! ===== a year: what both make of the state ===== -/
/-- draws, form and bricks of wall 0, first years, year, years kept, what is kept of them -/
abbrev YrS := Int32 × Nat × (Nat → Int32) × (Nat → Nat → Int32) × Nat × Nat × (Nat → Nat → Int32)
noncomputable def fiN (fi : Nat → Nat → Int32) (y : Int32) (N : Nat → Nat) : Nat → Nat → Int32 := fun p q => if cd (fi p q = -1 ∧ (N p).testBit q = true) = true then y else fi p q
noncomputable def vsY (yr F : Nat) (B : Nat → Int32) (F1 al : Nat) (mks : Nat → Nat) (x : Int32) (fi : Nat → Nat → Int32) (o : Nat) : Int32 :=
  if o = 1 then nI yr else if o = 2 then nI (pop F1) else if o = 3 then nI (pop (badS F B F1 (ptF 0 0 F B F1 al mks x).2 al mks)) else if o = 4 then nI (twi F B F1 (ptF 0 0 F B F1 al mks x).2 / 2) else nI (metN fi)
noncomputable def lnI (sg : Nat → List (Nat × Nat)) (L : Nat) (vs : Nat → Int32) : Nat := fa_first (lnY sg vs) L
theorem fkO_ln {off : Nat} {c : Nat → Bool} : ∀ n i, (∃ j, i ≤ j ∧ j < i + n ∧ c j = true ∧ (∀ k, i ≤ k → k < j → c k = false) ∧ fkO off c n i = nI (off + j)) ∨ ((∀ k, i ≤ k → k < i + n → c k = false) ∧ fkO off c n i = -1)
  | 0, i => .inr ⟨fun k _ _ => by omega, rfl⟩
  | n + 1, i => by
    cases z : c i with
    | true => exact .inl ⟨i, by omega, by omega, z, fun k _ _ => by omega, by unfold fkO; rw [if_pos z]⟩
    | false =>
      have e : fkO off c (n + 1) i = fkO off c n (i + 1) := by rw [fkO, if_neg (by rw [z]; decide)]
      rw [e]
      rcases fkO_ln (off := off) (c := c) n (i + 1) with ⟨j, h1, h2, h3, h4, h5⟩ | ⟨h1, h2⟩
      · refine .inl ⟨j, by omega, by omega, h3, fun k k1 k2 => ?_, h5⟩
        by_cases q : k = i
        · subst q; exact z
        · exact h4 k (by omega) k2
      · refine .inr ⟨fun k k1 k2 => ?_, h2⟩
        by_cases q : k = i
        · subst q; exact z
        · exact h1 k (by omega) (by omega)
theorem fkO_is {off L : Nat} {c : Nat → Bool} : fkO off c L 0 = if fa_first c L < L then nI (off + fa_first c L) else -1 := by
  have hl := fa_first_le c L
  rcases fkO_ln (off := off) (c := c) L 0 with ⟨j, h1, h2, h3, h4, h5⟩ | ⟨h1, h2⟩
  · have e : fa_first c L = j := by
      rcases Nat.lt_trichotomy (fa_first c L) j with q | q | q
      · have := fa_first_yes c L (by omega)
        rw [h4 _ (by omega) q] at this; cases this
      · exact q
      · have := fa_first_no c L j q
        rw [h3] at this; cases this
    rw [e, if_pos (by omega), h5]
  · rw [if_neg (fun q => ?_), h2]
    have := fa_first_yes c L q
    rw [h1 _ (by omega) (by omega)] at this; cases this
section
variable (F1 al be : Nat) (mks : Nat → Nat) (sg : Nat → List (Nat × Nat)) (L : Nat) (wy : Nat → Nat × Nat)
noncomputable def ptY (s : YrS) : Int32 × (Nat → Int32) :=
  if lnI sg L (vsY s.2.2.2.2.1 s.2.1 s.2.2.1 F1 al mks s.1 s.2.2.2.1) < L then
    ptF (wy (lnI sg L (vsY s.2.2.2.2.1 s.2.1 s.2.2.1 F1 al mks s.1 s.2.2.2.1))).1 (wy (lnI sg L (vsY s.2.2.2.2.1 s.2.1 s.2.2.1 F1 al mks s.1 s.2.2.2.1))).2 s.2.1 s.2.2.1 F1 al mks s.1
  else ptF 0 0 s.2.1 s.2.2.1 F1 al mks s.1
noncomputable def bdY (s : YrS) : Nat := pop (badS s.2.1 s.2.2.1 F1 (ptY F1 al mks sg L wy s).2 al mks)
noncomputable def kpY (s : YrS) : Nat := twi s.2.1 s.2.2.1 F1 (ptY F1 al mks sg L wy s).2 / 2
noncomputable def gdY (s : YrS) : Bool := decide (bdY F1 al mks sg L wy s ≤ be)
noncomputable def rwY (s : YrS) (k : Nat) : Int32 :=
  if k = 0 then nI (bdY F1 al mks sg L wy s) else if k = 1 then nI (kpY F1 al mks sg L wy s) else if k = 2 then bI (gdY F1 al be mks sg L wy s) else if k < 27 then nI (nr F1 (ptY F1 al mks sg L wy s).2 (k - 3)) else lfv F1 (ptY F1 al mks sg L wy s).2 (k - 27)
noncomputable def nxY (s : YrS) : YrS := ((ptY F1 al mks sg L wy s).1, F1, (ptY F1 al mks sg L wy s).2, fiN s.2.2.2.1 (nI s.2.2.2.2.1) (nr F1 (ptY F1 al mks sg L wy s).2), s.2.2.2.2.1 + 1, (if s.2.2.2.2.2.1 < 60 then s.2.2.2.2.2.1 + 1 else s.2.2.2.2.2.1), (if s.2.2.2.2.2.1 < 60 then va_up s.2.2.2.2.2.2 s.2.2.2.2.2.1 (rwY F1 al be mks sg L wy s) else s.2.2.2.2.2.2))
end
def YOk (s : YrS) : Prop := WB s.2.2.1 (pop s.2.1) ∧ pop s.2.1 ≤ 24 ∧ fiOk s.2.2.2.1 ∧ s.2.2.2.2.2.1 ≤ 60 ∧ ∀ y, y < s.2.2.2.2.2.1 → ∀ b, b < 24 → ∃ S, S < 2 ^ 24 ∧ s.2.2.2.2.2.2 y (3 + b) = nI S
def CWY (I : Nat → Nat → Int32) (J : Nat → Nat → Int64) (s : YrS) : Prop := I 1 0 = s.1 ∧ I 1 3 = nI s.2.2.2.2.1 ∧ WG (mk I J) 14 s.2.1 ∧ (∀ i, i < 24 → I 15 i = s.2.2.1 i) ∧ MT I s.2.2.2.1 ∧ I 8 0 = nI s.2.2.2.2.2.1 ∧ ∀ y, y < s.2.2.2.2.2.1 → I 9 y = s.2.2.2.2.2.2 y 0 ∧ I 10 y = s.2.2.2.2.2.2 y 1 ∧ I 11 y = s.2.2.2.2.2.2 y 2 ∧ ∀ b, b < 24 → I 12 (y * 24 + b) = s.2.2.2.2.2.2 y (3 + b) ∧ I 13 (y * 24 + b) = s.2.2.2.2.2.2 y (27 + b)
def RWY (I : Nat → Nat → Int32) (s : YrS) : Prop := I 178 0 = s.1 ∧ I 178 3 = nI s.2.2.2.2.1 ∧ RWl (I 178) 0 s.2.1 s.2.2.1 ∧ (∀ b c, b < 24 → c < 24 → I 178 (850 + 24 * b + c) = s.2.2.2.1 b c) ∧ (∀ b, b < 24 → I 178 (820 + b) = nI (mtS s.2.2.2.1 b)) ∧ I 178 4 = nI s.2.2.2.2.2.1 ∧ ∀ y, y < s.2.2.2.2.2.1 → ∀ k, k < 51 → I 178 (1430 + 51 * y + k) = s.2.2.2.2.2.2 y k
/-! congruences: only what lies in the cells counts -/
theorem near_cg {F1 F2 al : Nat} {B1 B1' B2 B2' : Nat → Int32} {mks : Nat → Nat} (h1 : ∀ i, i < pop F1 → B1 i = B1' i) (h2 : ∀ i, i < pop F2 → B2 i = B2' i) : badS F1 B1 F2 B2 al mks = badS F1 B1' F2 B2' al mks ∧ twi F1 B1 F2 B2 = twi F1 B1' F2 B2' := by
  have n1 : ∀ b, nr F1 B1 b = nr F1 B1' b := fun b => nr_cg h1
  have n2 : ∀ b, nr F2 B2 b = nr F2 B2' b := fun b => nr_cg h2
  constructor
  · refine bs_ext (fun b _ => ?_)
    rw [n1, n2]
    constructor
    · rintro ⟨⟨i, x1, x2⟩, x3⟩; exact ⟨⟨i, x1, by rw [← h2 i x1]; exact x2⟩, x3⟩
    · rintro ⟨⟨i, x1, x2⟩, x3⟩; exact ⟨⟨i, x1, by rw [h2 i x1]; exact x2⟩, x3⟩
  · unfold twi
    exact fb_sm_cong (fun b _ => by rw [n1, n2])
theorem ex_cg {F b : Nat} {B B' : Nat → Int32} (h : ∀ i, i < pop F → B i = B' i) : (∃ i, i < pop F ∧ B i = nI b) ↔ ∃ i, i < pop F ∧ B' i = nI b := by
  constructor
  · rintro ⟨i, x1, x2⟩; exact ⟨i, x1, by rw [← h i x1]; exact x2⟩
  · rintro ⟨i, x1, x2⟩; exact ⟨i, x1, by rw [h i x1]; exact x2⟩
theorem lfv_cg {F b : Nat} {B B' : Nat → Int32} (hB : WB B (pop F)) (hB' : WB B' (pop F)) (h24 : pop F ≤ 24) (hb : b < 24) (h : ∀ i, i < pop F → B i = B' i) : lfv F B b = lfv F B' b := by
  unfold lfv
  by_cases z : ∃ i, i < pop F ∧ B i = nI b
  · have z' := (ex_cg h).mp z
    rw [if_pos (cd_iff.mpr z), if_pos (cd_iff.mpr z')]
    obtain ⟨i, x1, x2⟩ := z
    unfold lfB
    rw [ixB_at hB h24 x1 hb x2, ixB_at hB' h24 x1 hb (by rw [← h i x1]; exact x2)]
    rcases tch_in (s := 1) x1 with q | ⟨j, hj, q, _⟩
    · rw [q, brI_m, brI_m]
    · rw [q, brI_in hj (by omega), brI_in hj (by omega), h j hj]
  · have z' := fun q => z ((ex_cg h).mpr q)
    rw [if_neg (by rw [cd_iff]; exact z), if_neg (by rw [cd_iff]; exact z')]
theorem mtS_cg {fi fi' : Nat → Nat → Int32} {b : Nat} (hb : b < 24) (h : ∀ p q, p < 24 → q < 24 → fi p q = fi' p q) : mtS fi b = mtS fi' b := bs_ext (fun c hc => by rw [h b c hb hc])
theorem metN_cg {fi fi' : Nat → Nat → Int32} (h : ∀ p q, p < 24 → q < 24 → fi p q = fi' p q) : metN fi = metN fi' := by
  unfold metN
  rw [fb_sm_cong (fun b hb => by rw [mtS_cg hb h])]
theorem fiN_ok {fi : Nat → Nat → Int32} {y : Int32} {F : Nat} {B : Nat → Int32} (h : fiOk fi) (hB : WB B (pop F)) : fiOk (fiN fi y (nr F B)) := by
  refine ⟨fun b c hb hc => ?_, fun b hb => ?_⟩
  · unfold fiN
    rw [h.1 b c hb hc, nr_sym hb hc]
  · unfold fiN
    rw [if_neg (fun z => ?_)]
    · exact h.2 b hb
    · rw [cd_iff] at z
      have z := z.2
      unfold nr at z
      rw [bs_tb] at z
      obtain ⟨_, i, j, h1, h2, h3, h4, h5⟩ := z
      have : i = j := hB.2.1 i j h1 h2 (h3.trans h5.symm) (by rw [h3]; exact nI_ne (by omega))
      subst this
      exact adj_irr h4
theorem fiP_N {fi : Nat → Nat → Int32} {y : Int32} {F p q : Nat} {B B' : Nat → Int32} (h24 : pop F ≤ 24) (hp : p < 24) (hq : q < 24) (h : ∀ i, i < pop F → B i = B' i) : fiP fi y (PM F B (pop F)) p q = fiN fi y (nr F B') p q := by
  have e : (PM F B (pop F) p q) ↔ ((nr F B' p).testBit q = true) := by rw [PM_nr h24 hp hq, nr_cg h]
  unfold fiP fiN
  rw [show (fi p q = -1 ∧ PM F B (pop F) p q) = (fi p q = -1 ∧ (nr F B' p).testBit q = true) by rw [e]]
theorem nxY_ok {F1 al be L : Nat} {mks : Nat → Nat} {sg : Nat → List (Nat × Nat)} {wy : Nat → Nat × Nat} {s : YrS} (h : YOk s) (h24 : pop F1 ≤ 24) (h0 : 0 < pop F1) : YOk (nxY F1 al be mks sg L wy s) ∧ WB (ptY F1 al mks sg L wy s).2 (pop F1) := by
  obtain ⟨o1, o2, o3, o4, o5⟩ := h
  have wb : WB (ptY F1 al mks sg L wy s).2 (pop F1) := by
    unfold ptY
    split
    · exact pt_WB o1 h0
    · exact pt_WB o1 h0
  refine ⟨⟨wb, h24, fiN_ok o3 wb, ?_, fun y hy b hb => ?_⟩, wb⟩
  · show (if s.2.2.2.2.2.1 < 60 then s.2.2.2.2.2.1 + 1 else s.2.2.2.2.2.1) ≤ 60
    split <;> omega
  · show ∃ S, S < 2 ^ 24 ∧ (if s.2.2.2.2.2.1 < 60 then va_up s.2.2.2.2.2.2 s.2.2.2.2.2.1 (rwY F1 al be mks sg L wy s) else s.2.2.2.2.2.2) y (3 + b) = nI S
    have hy : y < (if s.2.2.2.2.2.1 < 60 then s.2.2.2.2.2.1 + 1 else s.2.2.2.2.2.1) := hy
    by_cases z : s.2.2.2.2.2.1 < 60
    · rw [if_pos z] at hy ⊢
      by_cases q : y = s.2.2.2.2.2.1
      · rw [q, vu_eq]
        refine ⟨nr F1 (ptY F1 al mks sg L wy s).2 b, nr_lt _ _ _, ?_⟩
        unfold rwY
        rw [if_neg (by omega), if_neg (by omega), if_neg (by omega), if_pos (by omega), show 3 + b - 3 = b by omega]
      · rw [vu_ne q]; exact o5 y (by omega) b hb
    · rw [if_neg z] at hy ⊢
      exact o5 y hy b hb
