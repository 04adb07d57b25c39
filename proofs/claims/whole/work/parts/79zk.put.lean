/-! ===== putting up: what both do ===== -/
def dS (x : Int32) : Int32 := nI 1664525 * x + nI 1013904223
def dV (x : Int32) (m : Nat) : Nat := (dS x).toUInt32.toNat / 256 % m
def mxF : Nat → Int32 → (Nat → Int32) → Int32 × (Nat → Int32)
  | 0, x, B => (x, B)
  | i + 1, x, B => mxF i (dS x) (swp B (i + 1) (dV x (i + 2)))
theorem dV_lt {x : Int32} {m : Nat} (h : 0 < m) : dV x m < m := Nat.mod_lt _ h
theorem mxF_cg : ∀ i (x : Int32) (B B' : Nat → Int32), i < 24 → (∀ k, k < 24 → B k = B' k) → (mxF i x B).1 = (mxF i x B').1 ∧ ∀ k, k < 24 → (mxF i x B).2 k = (mxF i x B').2 k
  | 0, _, _, _, _, h => ⟨rfl, h⟩
  | i + 1, x, B, B', hi, h => by
    unfold mxF
    have := dV_lt (x := x) (m := i + 2) (by omega)
    exact mxF_cg i _ _ _ (by omega) (swp_cg (by omega) (by omega) h)
theorem swp_WB' {B : Nat → Int32} {n i j : Nat} (hB : WB B n) (hi : i < n) (hj : j < n) : WB (swp B i j) n := by
  by_cases h : i = j
  · subst h; rw [swp_same rfl]; exact hB
  · exact swp_WB hB hi hj h
theorem mxF_WB {n : Nat} : ∀ i (x : Int32) (B : Nat → Int32), i < n → WB B n → WB (mxF i x B).2 n
  | 0, _, _, _, h => h
  | i + 1, x, B, hi, h => by
    unfold mxF
    have := dV_lt (x := x) (m := i + 2) (by omega)
    exact mxF_WB i _ _ (by omega) (swp_WB' h hi (by omega))
theorem fa_first_cg {p q : Nat → Bool} : ∀ n, (∀ k, k < n → p k = q k) → fa_first p n = fa_first q n
  | 0, _ => rfl
  | n + 1, h => by unfold fa_first; rw [fa_first_cg n (fun k hk => h k (by omega)), h n (by omega)]
theorem up_cg {f g : Nat → Int32} {n k : Nat} {v : Int32} (h : ∀ i, i < n → f i = g i) : ∀ i, i < n → va_up f k v i = va_up g k v i := fun i hi => by unfold va_up; rw [h i hi]
theorem lyF_cg {tg : Nat → Nat} {w w' g g' : Nat → Int32} : ∀ m, (∀ i, i < m → w i = w' i) → (∀ k, k < 24 → g k = g' k) → ∀ k, k < 24 → lyF tg w g m k = lyF tg w' g' m k
  | 0, _, h => h
  | m + 1, hw, h => by
    unfold lyF
    rw [hw m (by omega)]
    exact up_cg (lyF_cg m (fun i hi => hw i (by omega)) h)
theorem prK_cg {F0 F1 : Nat} {B b b' : Nat → Int32} (h : ∀ k, k < 24 → b k = b' k) : ∀ n k, k < 24 → prK F0 B F1 b n k = prK F0 B F1 b' n k
  | 0 => h
  | n + 1 => up_cg (up_cg (prK_cg h n))
theorem rstE_cg {B : Nat → Int32} {N i : Nat} {s s' : Nat × (Nat → Int32)} (hN : N ≤ 24) (h1 : s.1 = s'.1) (h : ∀ k, k < 24 → s.2 k = s'.2 k) : (rstE B N i s).1 = (rstE B N i s').1 ∧ ∀ k, k < 24 → (rstE B N i s).2 k = (rstE B N i s').2 k := by
  have e : nxE N s = nxE N s' := fa_first_cg N (fun k hk => by rw [h1, h k (by omega)])
  unfold rstE
  dsimp only
  rw [e]
  refine ⟨rfl, ?_⟩
  split
  · exact up_cg h
  · exact h
theorem prs_cg {F0 F1 : Nat} {B b b' : Nat → Int32} (h24 : pop F1 ≤ 24) (h : ∀ k, k < 24 → b k = b' k) : ∀ n, (prs F0 B F1 b n).1 = (prs F0 B F1 b' n).1 ∧ ∀ k, k < 24 → (prs F0 B F1 b n).2 k = (prs F0 B F1 b' n).2 k
  | 0 => ⟨rfl, prK_cg h _⟩
  | n + 1 => by
    obtain ⟨i1, i2⟩ := prs_cg (F0 := F0) (B := B) h24 h n
    have s : ∀ b, prs F0 B F1 b (n + 1) = if isB B n = true then hPr F0 B F1 n (prs F0 B F1 b n) else prs F0 B F1 b n := fun _ => rfl
    rw [s, s]
    split
    · unfold hPr
      split
      · exact ⟨i1, i2⟩
      · exact rstE_cg h24 i1 i2
    · exact ⟨i1, i2⟩
/-- bricks of some old cells, each once -/
def PI (B0 : Nat → Int32) (N0 N1 : Nat) (S : Nat → Prop) (f : Nat → Int32) : Prop := (∀ k, k < N1 → f k = -1 ∨ ∃ c, c < N0 ∧ S c ∧ f k = B0 c ∧ B0 c ≠ -1) ∧ (∀ k l, k < N1 → l < N1 → f k = f l → f k ≠ -1 → k = l) ∧ (∀ k, N1 ≤ k → k < 24 → f k = -1)
theorem PI_mono {B0 f : Nat → Int32} {N0 N1 : Nat} {S T : Nat → Prop} (h : PI B0 N0 N1 S f) (hs : ∀ c, c < N0 → S c → T c) : PI B0 N0 N1 T f := by
  obtain ⟨a, b, c⟩ := h
  refine ⟨fun k hk => ?_, b, c⟩
  rcases a k hk with q | ⟨x, x1, x2, x3, x4⟩
  · exact .inl q
  · exact .inr ⟨x, x1, hs x x1 x2, x3, x4⟩
theorem PI_put {B0 f : Nat → Int32} {N0 N1 c k : Nat} {S : Nat → Prop} (hB : WB B0 N0) (h : PI B0 N0 N1 S f) (hc : c < N0) (hS : ¬ S c) (hn : B0 c ≠ -1) (hk : k < N1) : PI B0 N0 N1 (fun x => S x ∨ x = c) (va_up f k (B0 c)) := by
  obtain ⟨a1, a2, a3⟩ := h
  have nw : ∀ l, l < N1 → f l ≠ B0 c := fun l hl e => by
    rcases a1 l hl with q | ⟨x, x1, x2, x3, x4⟩
    · rw [q] at e; exact hn e.symm
    · have : x = c := hB.2.1 x c x1 hc (x3.symm.trans e) x4
      subst this; exact hS x2
  refine ⟨fun l hl => ?_, fun l m hl hm e ne => ?_, fun l h1 h2 => ?_⟩
  · by_cases z : l = k
    · subst z; rw [vu_eq]; exact .inr ⟨c, hc, .inr rfl, rfl, hn⟩
    · rw [vu_ne z]
      rcases a1 l hl with q | ⟨x, x1, x2, x3, x4⟩
      · exact .inl q
      · exact .inr ⟨x, x1, .inl x2, x3, x4⟩
  · by_cases z : l = k
    · by_cases y : m = k
      · omega
      · rw [z, vu_eq, vu_ne y] at e
        exact absurd e.symm (nw m hm)
    · by_cases y : m = k
      · rw [y, vu_eq, vu_ne z] at e
        exact absurd e (nw l hl)
      · rw [vu_ne z, vu_ne y] at e
        rw [vu_ne z] at ne
        exact a2 l m hl hm e ne
  · rw [vu_ne (by omega)]; exact a3 l h1 h2
theorem PI_WB {B0 f : Nat → Int32} {N0 N1 : Nat} {S : Nat → Prop} (hB : WB B0 N0) (h : PI B0 N0 N1 S f) : WB f N1 := by
  obtain ⟨a1, a2, a3⟩ := h
  refine ⟨fun k hk => ?_, a2, a3⟩
  rcases a1 k hk with q | ⟨x, x1, x2, x3, x4⟩
  · exact .inl q
  · rcases hB.1 x x1 with q | q
    · exact absurd q x4
    · rw [x3]; exact .inr q
theorem PI_0 {B0 : Nat → Int32} {N0 N1 : Nat} {S : Nat → Prop} : PI B0 N0 N1 S (fun _ => -1) := ⟨fun _ _ => .inl rfl, fun _ _ _ _ _ z => absurd rfl z, fun _ _ _ => rfl⟩
theorem isB_ne {B : Nat → Int32} {c : Nat} (h : isB B c = true) : B c ≠ -1 := by simpa [isB] using h
theorem lyF_PI {tg : Nat → Nat} {B0 : Nat → Int32} {N0 N1 : Nat} (hB : WB B0 N0) : ∀ m, m ≤ fb_ct (isB B0) N0 → (∀ i, i < m → tg i < N1) → PI B0 N0 N1 (fun c => ∃ i, i < m ∧ c = kth (isB B0) N0 i) (lyF tg (fun i => B0 (kth (isB B0) N0 i)) (fun _ => -1) m)
  | 0, _, _ => PI_0
  | m + 1, hm, ht => by
    obtain ⟨k1, k2, k3⟩ := kth_spec (p := isB B0) (N := N0) (n := m) (by omega)
    have ih := lyF_PI hB m (by omega) (fun i hi => ht i (by omega))
    unfold lyF
    refine PI_mono (PI_put hB ih k1 ?_ (isB_ne k2) (ht m (by omega))) (fun c _ z => ?_)
    · rintro ⟨i, hi, e⟩
      have := kth_mono (p := isB B0) (N := N0) hi (by omega)
      omega
    · rcases z with ⟨i, hi, e⟩ | e
      · exact ⟨i, by omega, e⟩
      · exact ⟨m, by omega, e⟩
theorem ld_iff {F0 : Nat} {B : Nat → Int32} : ∀ n c, ldK F0 B n c = true ↔ ∃ k, k < n ∧ (c = l0F F0 (isB B) k ∨ c = g0F F0 (isB B) k)
  | 0, c => by
    constructor
    · intro h; exact absurd h Bool.false_ne_true
    · rintro ⟨k, h, _⟩; omega
  | n + 1, c => by
    have ih := ld_iff (F0 := F0) (B := B) n c
    have e : ldK F0 B (n + 1) = va_up (va_up (ldK F0 B n) (l0F F0 (isB B) n) true) (g0F F0 (isB B) n) true := rfl
    rw [e]
    by_cases z : c = g0F F0 (isB B) n
    · rw [z, vu_eq]; exact ⟨fun _ => ⟨n, by omega, .inr rfl⟩, fun _ => rfl⟩
    · rw [vu_ne z]
      by_cases y : c = l0F F0 (isB B) n
      · rw [y, vu_eq]; exact ⟨fun _ => ⟨n, by omega, .inl rfl⟩, fun _ => rfl⟩
      · rw [vu_ne y, ih]
        constructor
        · rintro ⟨k, h1, h2⟩; exact ⟨k, by omega, h2⟩
        · rintro ⟨k, h1, h2⟩
          rcases Nat.lt_or_ge k n with q | q
          · exact ⟨k, q, h2⟩
          · have : k = n := by omega
            subst this
            rcases h2 with h2 | h2
            · exact absurd h2 y
            · exact absurd h2 z
theorem prK_PI {F0 F1 : Nat} {B : Nat → Int32} (hB : WB B (pop F0)) : ∀ n, n ≤ KP F0 (isB B) F1 → PI B (pop F0) (pop F1) (fun c => ldK F0 B n c = true) (prK F0 B F1 (fun _ => -1) n)
  | 0, _ => PI_0
  | n + 1, hn => by
    have ih := prK_PI (F1 := F1) hB n (by omega)
    obtain ⟨kp1, kp2, _⟩ := KP_le (F0 := F0) (F1 := F1) (m0 := isB B)
    obtain ⟨x1, x2, x3, x4, x5, x6⟩ := l0F_s (F := F0) (mem := isB B) (k := n) (by omega)
    obtain ⟨y1, y2, _⟩ := l0F_s (F := F1) (mem := fun _ => true) (k := n) (by omega)
    have e : prK F0 B F1 (fun _ => -1) (n + 1) = va_up (va_up (prK F0 B F1 (fun _ => -1) n) (l0F F1 (fun _ => true) n) (B (l0F F0 (isB B) n))) (g0F F1 (fun _ => true) n) (B (g0F F0 (isB B) n)) := rfl
    rw [e]
    have dist : ∀ k, k < n → l0F F0 (isB B) k ≠ l0F F0 (isB B) n ∧ l0F F0 (isB B) k ≠ g0F F0 (isB B) n ∧ g0F F0 (isB B) k ≠ l0F F0 (isB B) n ∧ g0F F0 (isB B) k ≠ g0F F0 (isB B) n := fun k hk => by
      obtain ⟨z1, z2, z3, z4, z5, z6⟩ := l0F_s (F := F0) (mem := isB B) (k := k) (by omega)
      have m := kth_mono (p := lsr F0 (isB B)) (N := pop F0) hk (by omega)
      have m : l0F F0 (isB B) k < l0F F0 (isB B) n := m
      refine ⟨by omega, fun q => ?_, fun q => ?_, fun q => ?_⟩
      · rw [q, x6] at z5; omega
      · rw [q, x5] at z6; omega
      · rw [q, x6] at z6; omega
    refine PI_mono (PI_put hB (PI_put hB ih (c := l0F F0 (isB B) n) (k := l0F F1 (fun _ => true) n) (by omega) ?_ (isB_ne x3) (by omega)) (c := g0F F0 (isB B) n) (k := g0F F1 (fun _ => true) n) x2 ?_ (isB_ne x4) y2) (fun c _ z => ?_)
    · rw [ld_iff]
      rintro ⟨k, h1, h2⟩
      have := dist k h1
      rcases h2 with h2 | h2
      · exact this.1 h2.symm
      · exact this.2.2.1 h2.symm
    · rw [ld_iff]
      rintro (⟨k, h1, h2⟩ | h2)
      · have := dist k h1
        rcases h2 with h2 | h2
        · exact this.2.1 h2.symm
        · exact this.2.2.2 h2.symm
      · omega
    · rw [ld_iff] at z ⊢
      rcases z with (⟨k, h1, h2⟩ | h2) | h2
      · exact ⟨k, by omega, h2⟩
      · exact ⟨n, by omega, .inl h2⟩
      · exact ⟨n, by omega, .inr h2⟩
theorem prs_PI {F0 F1 : Nat} {B : Nat → Int32} (hB : WB B (pop F0)) : ∀ n, n ≤ pop F0 → PI B (pop F0) (pop F1) (fun c => ldK F0 B (KP F0 (isB B) F1) c = true ∨ c < n) (prs F0 B F1 (fun _ => -1) n).2
  | 0, _ => PI_mono (prK_PI hB _ (Nat.le_refl _)) (fun c _ z => .inl z)
  | n + 1, hn => by
    have ih := prs_PI (F1 := F1) hB n (by omega)
    have s : prs F0 B F1 (fun _ => -1) (n + 1) = if isB B n = true then hPr F0 B F1 n (prs F0 B F1 (fun _ => -1) n) else prs F0 B F1 (fun _ => -1) n := rfl
    have keep := PI_mono ih (T := fun c => ldK F0 B (KP F0 (isB B) F1) c = true ∨ c < n + 1) (fun c _ z => z.elim .inl (fun q => .inr (by omega)))
    rw [s]
    by_cases z : isB B n = true
    · rw [if_pos z]
      unfold hPr
      by_cases y : ldK F0 B (KP F0 (isB B) F1) n = true
      · rw [if_pos y]; exact keep
      · rw [if_neg y]
        unfold rstE
        dsimp only
        by_cases w : nxE (pop F1) (prs F0 B F1 (fun _ => -1) n) < pop F1
        · rw [if_pos w]
          refine PI_mono (PI_put hB ih (c := n) (by omega) ?_ (isB_ne z) w) (fun c _ t => ?_)
          · rintro (q | q)
            · exact y q
            · omega
          · rcases t with (t | t) | t
            · exact .inl t
            · exact .inr (by omega)
            · exact .inr (by omega)
        · rw [if_neg w]; exact keep
    · rw [if_neg z]; exact keep
def mx1 : Nat := 1000
/-- the wall that way w and number y put up: draws, bricks -/
noncomputable def ptF (w y F0 : Nat) (B : Nat → Int32) (F1 al : Nat) (mks : Nat → Nat) (x : Int32) : Int32 × (Nat → Int32) :=
  if w = 4 then (x, (prs F0 B F1 (fun _ => -1) (pop F0)).2) else
  if w = 5 then (x, mnd F0 B F1 al mks mx1 (lyF (tgF (nI w) y (pop F1) (snF F1)) (fun i => B (kth (isB B) (pop F0) i)) (fun _ => -1) (if fb_ct (isB B) (pop F0) < pop F1 then fb_ct (isB B) (pop F0) else pop F1))) else
  if w = 6 then mxF (pop F1 - 1) x (lyF (tgF (nI w) y (pop F1) (snF F1)) (fun i => B (kth (isB B) (pop F0) i)) (fun _ => -1) (if fb_ct (isB B) (pop F0) < pop F1 then fb_ct (isB B) (pop F0) else pop F1)) else
  (x, lyF (tgF (nI w) y (pop F1) (snF F1)) (fun i => B (kth (isB B) (pop F0) i)) (fun _ => -1) (if fb_ct (isB B) (pop F0) < pop F1 then fb_ct (isB B) (pop F0) else pop F1))
theorem sn_lt {F i : Nat} (hi : i < pop F) : snF F i < pop F := by
  have nr := num_row hi
  have p1 := (pl_spec hi).1
  have l2 := num_le_pop (F := F) (q := 8 * (pl F i / 8) + 8) (by omega)
  unfold snF
  split <;> omega
theorem tg_lt {v : Int32} {y n i : Nat} {sn : Nat → Nat} (hi : i < n) (hs : ∀ i, i < n → sn i < n) : tgF v y n sn i < n := by
  unfold tgF
  split
  · exact Nat.mod_lt _ (by omega)
  · split
    · omega
    · split
      · exact hs i hi
      · exact hi
theorem ly_WB {F0 F1 y mm : Nat} {v : Int32} {B : Nat → Int32} (hB : WB B (pop F0)) (hm : mm = if fb_ct (isB B) (pop F0) < pop F1 then fb_ct (isB B) (pop F0) else pop F1) : WB (lyF (tgF v y (pop F1) (snF F1)) (fun i => B (kth (isB B) (pop F0) i)) (fun _ => -1) mm) (pop F1) := by
  have h : mm ≤ fb_ct (isB B) (pop F0) ∧ mm ≤ pop F1 := by rw [hm]; split <;> omega
  exact PI_WB hB (lyF_PI hB mm h.1 (fun i hi => tg_lt (by omega) (fun i hi => sn_lt hi)))
theorem pt_WB {w y F0 F1 al : Nat} {B : Nat → Int32} {mks : Nat → Nat} {x : Int32} (hB : WB B (pop F0)) (h0 : 0 < pop F1) : WB (ptF w y F0 B F1 al mks x).2 (pop F1) := by
  unfold ptF
  split
  · exact PI_WB hB (prs_PI hB _ (Nat.le_refl _))
  · split
    · have := mnd_WB (F1 := F0) (B1 := B) (F2 := F1) (al := al) (mks := mks) mx1 _ (ly_WB (F1 := F1) (y := y) (v := nI w) hB rfl)
      dsimp only; exact this
    · split
      · exact mxF_WB _ _ _ (by omega) (ly_WB hB rfl)
      · exact ly_WB hB rfl
