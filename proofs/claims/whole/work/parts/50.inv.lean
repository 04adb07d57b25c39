/-! ===== what ties the class's world (cells 1+o .. 61+o) to the reference's row (cell r) ===== -/
def WSc (I : Nat → Nat → Int32) (o r : Nat) : Prop := I (1 + o) 0 = I r 0 ∧ ∃ al be yr, al < 2 ∧ be ≤ 24 ∧ yr ≤ 999 ∧ I (1 + o) 1 = nI al ∧ I r 1 = nI al ∧ I (1 + o) 2 = nI be ∧ I r 2 = nI be ∧ I (1 + o) 3 = nI yr ∧ I r 3 = nI yr
def WMk (I : Nat → Nat → Int32) (o r : Nat) : Prop := ∃ mks brk : Nat → Nat, ∀ k, k < 24 → mks k < 4 ∧ brk k < 2 ∧ I (2 + o) k = nI (mks k) ∧ I r (10 + k) = nI (mks k) ∧ I (3 + o) k = nI (brk k) ∧ I r (40 + k) = nI (brk k)
def WSh (I : Nat → Nat → Int32) (J : Nat → Nat → Int64) (o r : Nat) : Prop := ∃ FS : Nat → Nat, ∀ s, s < 6 → FS s < 2 ^ 64 ∧ J (4 + o) s = lN (FS s) ∧ RSh (I r) s (FS s)
def WWl (I : Nat → Nat → Int32) (J : Nat → Nat → Int64) (o r : Nat) : Prop := ∃ FW : Nat → Nat, ∀ a, a < 6 → WG (mk I J) (14 + 4 * a + o) (FW a) ∧ WB (I (14 + 4 * a + o + 1)) (pop (FW a)) ∧ RWl (I r) a (FW a) (I (14 + 4 * a + o + 1))
noncomputable def mtS (fi : Nat → Nat → Int32) (b : Nat) : Nat := bs (fun c => fi b c ≠ -1)
noncomputable def metN (fi : Nat → Nat → Int32) : Nat := fb_sm (fun b => pop (mtS fi b)) 24 / 2
def WMt (I : Nat → Nat → Int32) (o r : Nat) : Prop := ∃ fi : Nat → Nat → Int32, (∀ b c, b < 24 → c < 24 → fi b c = fi c b ∧ I r (850 + 24 * b + c) = fi b c) ∧ (∀ b, b < 24 → fi b b = -1 ∧ I r (820 + b) = nI (mtS fi b)) ∧ (∀ b c, b < c → c < 24 → I (7 + o) (b * 24 + c) = fi b c) ∧ I (1 + o) 4 = nI (metN fi)
def WHi (I : Nat → Nat → Int32) (o r : Nat) : Prop := ∃ h, h ≤ 60 ∧ I (8 + o) 0 = nI h ∧ I r 4 = nI h ∧ ∀ y, y < h → I (9 + o) y = I r (1430 + 51 * y) ∧ I (10 + o) y = I r (1430 + 51 * y + 1) ∧ I (11 + o) y = I r (1430 + 51 * y + 2) ∧ ∀ b, b < 24 → (∃ S, S < 2 ^ 24 ∧ I (12 + o) (y * 24 + b) = nI S ∧ I r (1430 + 51 * y + 3 + b) = nI S) ∧ I (13 + o) (y * 24 + b) = I r (1430 + 51 * y + 27 + b)
/-! the lines of a rule: a row of steps (what, number); the class writes them as codes -/
def opC (op : Nat) : Nat := [0, 271, 272, 273, 274, 275, 43, 45, 42, 47, 60, 61, 62, 270, 269, 268].getD op 0
def stC (q : Nat × Nat) : List Int32 := if q.1 = 0 then [nI q.2] else if q.1 = 9 then [nI q.2, -(nI 47)] else [-(nI (opC q.1))]
def segC : List (Nat × Nat) → List Int32
  | [] => []
  | q :: l => stC q ++ segC l
/-- kinds on the stack: true a condition, false a number; at most 31 high -/
def ak1 (q : Nat × Nat) (K : List Bool) : Option (List Bool) :=
  if q.1 < 6 then (if K.length < 30 ∧ q.2 ≤ 9999 then some (false :: K) else none)
  else if q.1 = 9 then (match K with
    | false :: K => if K.length < 30 ∧ q.2 ≤ 9999 ∧ 0 < q.2 then some (false :: K) else none
    | _ => none)
  else if q.1 < 9 then (match K with
    | false :: false :: K => some (false :: K)
    | _ => none)
  else if q.1 < 13 then (match K with
    | false :: false :: K => some (true :: K)
    | _ => none)
  else if q.1 = 13 then (match K with
    | true :: K => some (true :: K)
    | _ => none)
  else if q.1 < 16 then (match K with
    | true :: true :: K => some (true :: K)
    | _ => none)
  else none
def ak : List (Nat × Nat) → List Bool → Option (List Bool)
  | [], K => some K
  | q :: l, K => match ak1 q K with
    | none => none
    | some K' => ak l K'
def segAt (f : Nat → Int32) (s : Nat) (l : List Int32) : Prop := ∀ j, j < l.length → f (s + j) = l.getD j 0
def stpAt (f : Nat → Int32) (base fr : Nat) (l : List (Nat × Nat)) : Prop := ∀ j, j < l.length → f (base + 2 * (fr + j)) = nI (l.getD j (0, 0)).1 ∧ ((l.getD j (0, 0)).1 = 0 ∨ (l.getD j (0, 0)).1 = 9 → f (base + 2 * (fr + j) + 1) = nI (l.getD j (0, 0)).2)
def RuLine (I : Nat → Nat → Int32) (R r k i : Nat) : Prop := ∃ (way by_ s e f t : Nat) (seg : List (Nat × Nat)), way < 7 ∧ I (R + 1) i = nI way ∧ I r (4500 + 16 * k + i) = nI way ∧ (way = 1 → by_ ≤ 9999 ∧ I (R + 2) i = nI by_ ∧ I r (4550 + 16 * k + i) = nI by_) ∧ I (R + 3) i = nI s ∧ I (R + 4) i = nI e ∧ e ≤ 400 ∧ I r (4600 + 16 * k + i) = nI f ∧ I r (4650 + 16 * k + i) = nI t ∧ t ≤ 409 ∧ e = s + (segC seg).length ∧ t = f + seg.length ∧ segAt (I (R + 5)) s (segC seg) ∧ stpAt (I r) (4700 + 820 * k) f seg ∧ (seg = [] ∨ ak seg [] = some [true])
def WRu (I : Nat → Nat → Int32) (o r : Nat) : Prop := ∀ k, k < 3 → ∃ L, L ≤ 16 ∧ I (38 + 8 * k + o) 0 = nI L ∧ I r (4490 + k) = nI L ∧ ∀ i, i < L → RuLine I (38 + 8 * k + o) r k i
def WRel (I : Nat → Nat → Int32) (J : Nat → Nat → Int64) (o r : Nat) : Prop := WSc I o r ∧ WMk I o r ∧ WSh I J o r ∧ WWl I J o r ∧ WMt I o r ∧ WHi I o r ∧ WRu I o r
section TR
variable {I I' : Nat → Nat → Int32} {J J' : Nat → Nat → Int64} {o o' r r' : Nat}
theorem WSc_tr (hI : ∀ i, i < 4 → I' (1 + o') i = I (1 + o) i) (hr : ∀ i, i < 4 → I' r' i = I r i) (h : WSc I o r) : WSc I' o' r' := by
  unfold WSc at *
  rw [hI 0 (by decide), hI 1 (by decide), hI 2 (by decide), hI 3 (by decide), hr 0 (by decide), hr 1 (by decide), hr 2 (by decide), hr 3 (by decide)]
  exact h
theorem WMk_tr (hI : ∀ i, i < 24 → I' (2 + o') i = I (2 + o) i ∧ I' (3 + o') i = I (3 + o) i) (hr : ∀ i, i < 70 → I' r' i = I r i) (h : WMk I o r) : WMk I' o' r' := by
  obtain ⟨mks, brk, h⟩ := h
  refine ⟨mks, brk, fun k hk => ?_⟩
  rw [(hI k hk).1, (hI k hk).2, hr _ (by omega), hr _ (by omega)]
  exact h k hk
theorem RSh_tr {f g : Nat → Int32} {s F : Nat} (hs : s < 6) (hr : ∀ i, i < 370 → g i = f i) (h : RSh f s F) : RSh g s F := by
  obtain ⟨h1, h2, h3⟩ := h
  refine ⟨h1, by rw [hr _ (by omega)]; exact h2, fun i hi => ?_⟩
  rw [hr _ (by omega), hr _ (by omega)]
  exact h3 i hi
theorem WSh_tr (hJ : ∀ i, i < 6 → J' (4 + o') i = J (4 + o) i) (hr : ∀ i, i < 370 → I' r' i = I r i) (h : WSh I J o r) : WSh I' J' o' r' := by
  obtain ⟨FS, h⟩ := h
  refine ⟨FS, fun s hs => ?_⟩
  obtain ⟨h1, h2, h3⟩ := h s hs
  exact ⟨h1, by rw [hJ s hs]; exact h2, RSh_tr hs hr h3⟩
theorem WB_tr {B B' : Nat → Int32} {n : Nat} (hn : n ≤ 24) (hB : ∀ i, i < 24 → B' i = B i) (h : WB B n) : WB B' n := by
  obtain ⟨h1, h2, h3⟩ := h
  refine ⟨fun i hi => ?_, fun i j hi hj => ?_, fun i h4 h5 => ?_⟩
  · rw [hB i (by omega)]; exact h1 i hi
  · rw [hB i (by omega), hB j (by omega)]; exact h2 i j hi hj
  · rw [hB i h5]; exact h3 i h4 h5
theorem RWl_tr {f g : Nat → Int32} {a F : Nat} {B B' : Nat → Int32} (ha : a < 6) (hr : ∀ i, 370 ≤ i → i < 812 → g i = f i) (hB : ∀ i, i < 24 → B' i = B i) (h : RWl f a F B) : RWl g a F B' := by
  obtain ⟨h1, h2, h3, h4⟩ := h
  refine ⟨h1, by rw [hr _ (by omega) (by omega)]; exact h2, fun i hi => ?_, fun i hi => ?_⟩
  · rw [hr _ (by omega) (by omega), hr _ (by omega) (by omega)]; exact h3 i hi
  · rw [hr _ (by omega) (by omega), hB i hi]; exact h4 i hi
theorem WG_tr {W W' F : Nat} (hA : WA (mk I' J') W') (hJ : J' W' 0 = J W 0) (h1 : I' W' 1 = I W 1) (h2 : ∀ i, i < 24 → I' (W' + 2) i = I (W + 2) i) (h3 : ∀ i, i < 96 → I' (W' + 3) i = I (W + 3) i) (h : WG (mk I J) W F) : WG (mk I' J') W' F := by
  obtain ⟨_, hF, h24, hj, hc, hp, ht⟩ := h
  refine ⟨hA, hF, h24, ?_, ?_, fun i hi => ?_, fun i s hi hs => ?_⟩
  · show J' W' 0 = _; rw [hJ]; exact hj
  · show I' W' 1 = _; rw [h1]; exact hc
  · show I' (W' + 2) i = _; rw [h2 i (by omega)]; exact hp i hi
  · show I' (W' + 3) _ = _; rw [h3 _ (by omega)]; exact ht i s hi hs
theorem WWl_tr (hA : ∀ a, a < 6 → WA (mk I' J') (14 + 4 * a + o')) (hJ : ∀ a, a < 6 → J' (14 + 4 * a + o') 0 = J (14 + 4 * a + o) 0) (hI : ∀ a, a < 6 → I' (14 + 4 * a + o') 1 = I (14 + 4 * a + o) 1 ∧ (∀ i, i < 24 → I' (14 + 4 * a + o' + 1) i = I (14 + 4 * a + o + 1) i) ∧ (∀ i, i < 24 → I' (14 + 4 * a + o' + 2) i = I (14 + 4 * a + o + 2) i) ∧ (∀ i, i < 96 → I' (14 + 4 * a + o' + 3) i = I (14 + 4 * a + o + 3) i)) (hr : ∀ i, 370 ≤ i → i < 812 → I' r' i = I r i) (h : WWl I J o r) : WWl I' J' o' r' := by
  obtain ⟨FW, h⟩ := h
  refine ⟨FW, fun a ha => ?_⟩
  obtain ⟨h1, h2, h3⟩ := h a ha
  obtain ⟨i1, i2, i3, i4⟩ := hI a ha
  exact ⟨WG_tr (hA a ha) (hJ a ha) i1 i3 i4 h1, WB_tr h3.1 i2 h2, RWl_tr ha hr i2 h3⟩
theorem WMt_tr (h4 : I' (1 + o') 4 = I (1 + o) 4) (hI : ∀ i, i < 576 → I' (7 + o') i = I (7 + o) i) (hr : ∀ i, 820 ≤ i → i < 1430 → I' r' i = I r i) (h : WMt I o r) : WMt I' o' r' := by
  obtain ⟨fi, h1, h2, h3, h5⟩ := h
  refine ⟨fi, fun b c hb hc => ?_, fun b hb => ?_, fun b c hb hc => ?_, by rw [h4]; exact h5⟩
  · rw [hr _ (by omega) (by omega)]; exact h1 b c hb hc
  · rw [hr _ (by omega) (by omega)]; exact h2 b hb
  · rw [hI _ (by omega)]; exact h3 b c hb hc
theorem WHi_tr (h0 : I' (8 + o') 0 = I (8 + o) 0) (hI : ∀ i, i < 60 → I' (9 + o') i = I (9 + o) i ∧ I' (10 + o') i = I (10 + o) i ∧ I' (11 + o') i = I (11 + o) i) (hI2 : ∀ i, i < 1440 → I' (12 + o') i = I (12 + o) i ∧ I' (13 + o') i = I (13 + o) i) (hr4 : I' r' 4 = I r 4) (hr : ∀ i, 1430 ≤ i → i < 4490 → I' r' i = I r i) (h : WHi I o r) : WHi I' o' r' := by
  obtain ⟨hh, h1, h2, h3, h4⟩ := h
  refine ⟨hh, h1, by rw [h0]; exact h2, by rw [hr4]; exact h3, fun y hy => ?_⟩
  obtain ⟨a1, a2, a3, a4⟩ := h4 y hy
  obtain ⟨b1, b2, b3⟩ := hI y (by omega)
  rw [b1, b2, b3, hr _ (by omega) (by omega), hr _ (by omega) (by omega), hr _ (by omega) (by omega)]
  refine ⟨a1, a2, a3, fun b hb => ?_⟩
  rw [(hI2 (y * 24 + b) (by omega)).1, (hI2 (y * 24 + b) (by omega)).2, hr _ (by omega) (by omega), hr _ (by omega) (by omega)]
  exact a4 b hb
theorem WRu_tr (hI0 : ∀ k, k < 3 → I' (38 + 8 * k + o') 0 = I (38 + 8 * k + o) 0) (hI : ∀ k, k < 3 → ∀ i, i < 16 → I' (38 + 8 * k + o' + 1) i = I (38 + 8 * k + o + 1) i ∧ I' (38 + 8 * k + o' + 2) i = I (38 + 8 * k + o + 2) i ∧ I' (38 + 8 * k + o' + 3) i = I (38 + 8 * k + o + 3) i ∧ I' (38 + 8 * k + o' + 4) i = I (38 + 8 * k + o + 4) i) (hI2 : ∀ k, k < 3 → ∀ i, i < 400 → I' (38 + 8 * k + o' + 5) i = I (38 + 8 * k + o + 5) i) (hr : ∀ i, 4490 ≤ i → i < 7160 → I' r' i = I r i) (h : WRu I o r) : WRu I' o' r' := by
  intro k hk
  obtain ⟨L, h1, h2, h3, h4⟩ := h k hk
  refine ⟨L, h1, by rw [hI0 k hk]; exact h2, by rw [hr _ (by omega) (by omega)]; exact h3, fun i hi => ?_⟩
  obtain ⟨way, by_, s, e, f, t, seg, q1, q2, q3, q4, q5, q6, q7, q8, q9, q10, q11, q12, q13, q14, q15⟩ := h4 i hi
  obtain ⟨j1, j2, j3, j4⟩ := hI k hk i (by omega)
  refine ⟨way, by_, s, e, f, t, seg, q1, by rw [j1]; exact q2, by rw [hr _ (by omega) (by omega)]; exact q3, fun z => ?_, by rw [j3]; exact q5, by rw [j4]; exact q6, q7, by rw [hr _ (by omega) (by omega)]; exact q8, by rw [hr _ (by omega) (by omega)]; exact q9, q10, q11, q12, fun j hj => ?_, fun j hj => ?_, q15⟩
  · rw [j2, hr _ (by omega) (by omega)]; exact q4 z
  · rw [hI2 k hk _ (by omega)]; exact q13 j hj
  · rw [hr _ (by omega) (by omega), hr _ (by omega) (by omega)]; exact q14 j hj
theorem WA_0 {a : Nat} (ha : a < 6) : WA (mk I J) (14 + 4 * a + 0) := by
  have : ∀ a, a < 6 → SH (14 + 4 * a + 0) = (9, 5) ∧ RR (14 + 4 * a + 0) 2 = some (14 + 4 * a + 0 + 1) ∧ RR (14 + 4 * a + 0) 3 = some (14 + 4 * a + 0 + 2) ∧ RR (14 + 4 * a + 0) 4 = some (14 + 4 * a + 0 + 3) ∧ SH (14 + 4 * a + 0 + 1) = (20, 24) ∧ SH (14 + 4 * a + 0 + 2) = (20, 24) ∧ SH (14 + 4 * a + 0 + 3) = (20, 96) := by decide +kernel
  exact this a ha
theorem WA_61 {a : Nat} (ha : a < 6) : WA (mk I J) (14 + 4 * a + 61) := by
  have : ∀ a, a < 6 → SH (14 + 4 * a + 61) = (9, 5) ∧ RR (14 + 4 * a + 61) 2 = some (14 + 4 * a + 61 + 1) ∧ RR (14 + 4 * a + 61) 3 = some (14 + 4 * a + 61 + 2) ∧ RR (14 + 4 * a + 61) 4 = some (14 + 4 * a + 61 + 3) ∧ SH (14 + 4 * a + 61 + 1) = (20, 24) ∧ SH (14 + 4 * a + 61 + 2) = (20, 24) ∧ SH (14 + 4 * a + 61 + 3) = (20, 96) := by decide +kernel
  exact this a ha
/-- nothing of the world has changed -/
theorem WRel_fr (hA : ∀ a, a < 6 → WA (mk I' J') (14 + 4 * a + o)) (hI : ∀ k, 1 + o ≤ k → k ≤ 61 + o → I' k = I k) (hJ : ∀ k, 1 + o ≤ k → k ≤ 61 + o → J' k = J k) (hr : I' r = I r) (h : WRel I J o r) : WRel I' J' o r := by
  obtain ⟨h1, h2, h3, h4, h5, h6, h7⟩ := h
  have hr' : ∀ i, I' r i = I r i := fun i => by rw [hr]
  refine ⟨WSc_tr (fun i _ => ?_) (fun i _ => hr' i) h1, WMk_tr (fun i _ => ⟨?_, ?_⟩) (fun i _ => hr' i) h2, WSh_tr (fun i _ => ?_) (fun i _ => hr' i) h3, WWl_tr hA (fun a ha => ?_) (fun a ha => ⟨?_, fun i _ => ?_, fun i _ => ?_, fun i _ => ?_⟩) (fun i _ _ => hr' i) h4, WMt_tr ?_ (fun i _ => ?_) (fun i _ _ => hr' i) h5, WHi_tr ?_ (fun i _ => ⟨?_, ?_, ?_⟩) (fun i _ => ⟨?_, ?_⟩) (hr' 4) (fun i _ _ => hr' i) h6, WRu_tr (fun k _ => ?_) (fun k _ i _ => ⟨?_, ?_, ?_, ?_⟩) (fun k _ i _ => ?_) (fun i _ _ => hr' i) h7⟩
  all_goals first | rw [hI _ (by omega) (by omega)] | rw [hJ _ (by omega) (by omega)]
end TR
/-! ===== what holds between two calls ===== -/
def Inv (I : Nat → Nat → Int32) (J : Nat → Nat → Int64) : Prop := WRel I J 0 178 ∧ (∃ pb : Bool, I 0 2 = bI pb ∧ I 177 2 = bI pb ∧ (pb = true → WRel I J 61 179)) ∧ (∃ tl, tl ≤ 400 ∧ I 0 4 = nI tl ∧ I 177 12 = nI tl ∧ ∀ i, i < tl → ∃ c, c < 256 ∧ I 123 i = nI c ∧ I 182 i = nI c) ∧ I 124 1 = I 177 19 ∧ I 124 2 = I 177 21
/-- class: only what is scratch changes -/
def FC (I I' : Nat → Nat → Int32) (J J' : Nat → Nat → Int64) : Prop := (∀ a, a < 137 ∨ 176 < a → I' a = I a) ∧ (∀ a, a < 137 → J' a = J a)
/-- reference: only what is scratch changes -/
def FR (I I' : Nat → Nat → Int32) : Prop := (∀ a, a < 177 → I' a = I a) ∧ I' 178 = I 178 ∧ I' 179 = I 179 ∧ I' 182 = I 182 ∧ ∀ k, k < 22 → I' 177 k = I 177 k
theorem FC_refl (I : Nat → Nat → Int32) (J : Nat → Nat → Int64) : FC I I J J := ⟨fun _ _ => rfl, fun _ _ => rfl⟩
theorem FR_refl (I : Nat → Nat → Int32) : FR I I := ⟨fun _ _ => rfl, rfl, rfl, rfl, fun _ _ => rfl⟩
theorem FC_trans {I I' I'' : Nat → Nat → Int32} {J J' J'' : Nat → Nat → Int64} (h : FC I I' J J') (h2 : FC I' I'' J' J'') : FC I I'' J J'' := ⟨fun a ha => (h2.1 a ha).trans (h.1 a ha), fun a ha => (h2.2 a ha).trans (h.2 a ha)⟩
theorem FR_trans {I I' I'' : Nat → Nat → Int32} (h : FR I I') (h2 : FR I' I'') : FR I I'' := ⟨fun a ha => (h2.1 a ha).trans (h.1 a ha), h2.2.1.trans h.2.1, h2.2.2.1.trans h.2.2.1, h2.2.2.2.1.trans h.2.2.2.1, fun k hk => (h2.2.2.2.2 k hk).trans (h.2.2.2.2 k hk)⟩
theorem Inv_FC {I I' : Nat → Nat → Int32} {J J' : Nat → Nat → Int64} (h : Inv I J) (f : FC I I' J J') : Inv I' J' := by
  obtain ⟨h1, ⟨pb, h2, h3, h4⟩, ⟨tl, h5, h6, h7, h8⟩, h9, h10⟩ := h
  obtain ⟨f1, f2⟩ := f
  refine ⟨WRel_fr (fun a ha => WA_0 ha) (fun k _ _ => f1 k (by omega)) (fun k _ _ => f2 k (by omega)) (f1 _ (by omega)) h1, ⟨pb, by rw [f1 _ (by omega)]; exact h2, by rw [f1 _ (by omega)]; exact h3, fun z => WRel_fr (fun a ha => WA_61 ha) (fun k _ _ => f1 k (by omega)) (fun k _ _ => f2 k (by omega)) (f1 _ (by omega)) (h4 z)⟩, ⟨tl, h5, by rw [f1 _ (by omega)]; exact h6, by rw [f1 _ (by omega)]; exact h7, fun i hi => ?_⟩, ?_, ?_⟩
  · rw [f1 _ (by omega), f1 _ (by omega)]; exact h8 i hi
  · rw [f1 _ (by omega), f1 _ (by omega)]; exact h9
  · rw [f1 _ (by omega), f1 _ (by omega)]; exact h10
theorem Inv_FR {I I' : Nat → Nat → Int32} {J : Nat → Nat → Int64} (h : Inv I J) (f : FR I I') : Inv I' J := by
  obtain ⟨h1, ⟨pb, h2, h3, h4⟩, ⟨tl, h5, h6, h7, h8⟩, h9, h10⟩ := h
  obtain ⟨f1, f2, f3, f4, f5⟩ := f
  refine ⟨WRel_fr (fun a ha => WA_0 ha) (fun k _ _ => f1 k (by omega)) (fun k _ _ => rfl) f2 h1, ⟨pb, by rw [f1 _ (by omega)]; exact h2, by rw [f5 _ (by omega)]; exact h3, fun z => WRel_fr (fun a ha => WA_61 ha) (fun k _ _ => f1 k (by omega)) (fun k _ _ => rfl) f3 (h4 z)⟩, ⟨tl, h5, by rw [f1 _ (by omega)]; exact h6, by rw [f5 _ (by omega)]; exact h7, fun i hi => ?_⟩, ?_, ?_⟩
  · rw [f1 _ (by omega), f4]; exact h8 i hi
  · rw [f1 _ (by omega), f5 _ (by omega)]; exact h9
  · rw [f1 _ (by omega), f5 _ (by omega)]; exact h10
/-- class and reference answer alike, and what holds between calls holds again -/
def Both (X : Nat × (Nat → Int32)) (d mc mr : Nat) (as : List Value) (I : Nat → Nat → Int32) (J : Nat → Nat → Int64) : Prop := ∃ (v : Int32) (I1 : Nat → Nat → Int32) (J1 : Nat → Nat → Int64) (I2 : Nat → Nat → Int32), callF X d mc (.ref 0 :: as) (mk I J) = some (some (.int v), mk I1 J1) ∧ callF X d mr (.ref 177 :: as) (mk I1 J1) = some (some (.int v), mk I2 J1) ∧ Inv I2 J1
/-- of a call that only asks -/
theorem Both_q {X : Nat × (Nat → Int32)} {d mc mr : Nat} {as : List Value} {I : Nat → Nat → Int32} {J : Nat → Nat → Int64} (v : Int32) (h : Inv I J) (hc : ∃ I1 J1, callF X d mc (.ref 0 :: as) (mk I J) = some (some (.int v), mk I1 J1) ∧ FC I I1 J J1) (hr : ∀ I1 J1, Inv I1 J1 → FC I I1 J J1 → ∃ I2, callF X d mr (.ref 177 :: as) (mk I1 J1) = some (some (.int v), mk I2 J1) ∧ FR I1 I2) : Both X d mc mr as I J := by
  obtain ⟨I1, J1, h1, h2⟩ := hc
  have h3 := Inv_FC h h2
  obtain ⟨I2, h4, h5⟩ := hr I1 J1 h3 h2
  exact ⟨v, I1, J1, I2, h1, h4, Inv_FR h3 h5⟩
/-- of a call that changes nothing at all -/
theorem Both_0 {X : Nat × (Nat → Int32)} {d mc mr : Nat} {as : List Value} {I : Nat → Nat → Int32} {J : Nat → Nat → Int64} (v : Int32) (h : Inv I J) (hc : callF X d mc (.ref 0 :: as) (mk I J) = some (some (.int v), mk I J)) (hr : callF X d mr (.ref 177 :: as) (mk I J) = some (some (.int v), mk I J)) : Both X d mc mr as I J := ⟨v, I, J, I, hc, hr, h⟩
