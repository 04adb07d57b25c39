/-! ===== what the real heap, the locals and the stack are beside the abstract ones ===== -/
def cvV (B : Nat) (SA : Nat → Nat) (v : Value) : Value := match v with
  | .ref a => .ref (B + a)
  | .float k => .ref (SA k.toNat)
  | w => w
def fldV (B : Nat) (m : Mem) (a k j : Nat) : Value := match ftO k j with
  | 1 => .long (m_J m a j)
  | 2 => va_rf ((m_R m a j).map (B + ·))
  | _ => .int (m_I m a j)
def arrF (B : Nat) (m : Mem) (a k j : Nat) : Value := match k with
  | 21 => .long (m_J m a j)
  | 23 => va_rf ((m_R m a j).map (B + ·))
  | 24 => va_rf ((m_R m a j).map (B + ·))
  | _ => .int (m_I m a j)
def celA (D : va_G) (cy : Nat → ClassId) (B : Nat) (m : Mem) (a : Nat) (H : Heap) : Prop :=
  if (m_sh m a).1 < 13 then t_OB (B + a) (D.1 (m_sh m a).1) (clO (m_sh m a).1).2.2 (D.2 (m_sh m a).1) H (fldV B m a (m_sh m a).1)
  else H[B + a]? = some (arrV (cy (m_sh m a).1) (m_sh m a).2 (arrF B m a (m_sh m a).1))
def RepA (D : va_G) (cy : Nat → ClassId) (B : Nat) (H0 : Heap) (m : Mem) (H : Heap) : Prop :=
  H.size = B + m_n m ∧ (∀ q, q < B → H[q]? = H0[q]?) ∧ (∀ a, a < m_n m → celA D cy B m a H) ∧ ∀ a, m_n m ≤ a → (m_sh m a).1 = 99
theorem celA.kept {D : va_G} {cy : Nat → ClassId} {B : Nat} {m m' : Mem} {a : Nat} {H H1 : Heap} (h : celA D cy B m a H) (h1 : H1[B + a]? = H[B + a]?) (hs : m_sh m' a = m_sh m a) (hI : m_I m' a = m_I m a) (hJ : m_J m' a = m_J m a) (hR : m_R m' a = m_R m a) : celA D cy B m' a H1 := by
  unfold celA at h ⊢
  rw [hs]
  split at h
  · next hk =>
    rw [if_pos hk]
    have e : fldV B m' a (m_sh m a).1 = fldV B m a (m_sh m a).1 := by funext j; unfold fldV; rw [hI, hJ, hR]
    rw [e]
    exact h.kept h1
  · next hk =>
    rw [if_neg hk]
    have e : arrF B m' a (m_sh m a).1 = arrF B m a (m_sh m a).1 := by funext j; unfold arrF; rw [hI, hJ, hR]
    rw [e, h1]
    exact h
/-- a write into one cell -/
theorem RepA.put {D : va_G} {cy : Nat → ClassId} {B : Nat} {H0 : Heap} {m m' : Mem} {H H1 : Heap} {a : Nat} (h : RepA D cy B H0 m H) (ha : a < m_n m) (hz : H1.size = H.size) (ho : ∀ q, q ≠ B + a → H1[q]? = H[q]?) (hc : celA D cy B m' a H1)
    (hn : m_n m' = m_n m) (hs : m_sh m' = m_sh m) (hI : ∀ b, b ≠ a → m_I m' b = m_I m b) (hJ : ∀ b, b ≠ a → m_J m' b = m_J m b) (hR : ∀ b, b ≠ a → m_R m' b = m_R m b) : RepA D cy B H0 m' H1 := by
  obtain ⟨h1, h2, h3, h4⟩ := h
  refine ⟨by rw [hz, hn]; exact h1, fun q hq => (ho q (by omega)).trans (h2 q hq), fun b hb => ?_, fun b hb => by rw [hs]; exact h4 b (by rw [← hn]; exact hb)⟩
  by_cases e : b = a
  · subst e; exact hc
  · exact (h3 b (by rw [← hn]; exact hb)).kept (ho _ (by omega)) (by rw [hs]) (hI b e) (hJ b e) (hR b e)
theorem RepA.lt {D : va_G} {cy : Nat → ClassId} {B : Nat} {H0 : Heap} {m : Mem} {H : Heap} {a k : Nat} (h : RepA D cy B H0 m H) (hk : (m_sh m a).1 = k) (h99 : k ≠ 99) : a < m_n m := by
  rcases Nat.lt_or_ge a (m_n m) with h1 | h1
  · exact h1
  · exact absurd (hk.symm.trans (h.2.2.2 a h1)) h99
theorem RepA.obj {D : va_G} {cy : Nat → ClassId} {B : Nat} {H0 : Heap} {m : Mem} {H : Heap} {a k : Nat} (h : RepA D cy B H0 m H) (hk : (m_sh m a).1 = k) (hk2 : k < 13) : t_OB (B + a) (D.1 k) (clO k).2.2 (D.2 k) H (fldV B m a k) := by
  have h1 := h.2.2.1 a (h.lt hk (by omega))
  unfold celA at h1
  rw [hk, if_pos hk2] at h1
  exact h1
theorem RepA.arr {D : va_G} {cy : Nat → ClassId} {B : Nat} {H0 : Heap} {m : Mem} {H : Heap} {a k : Nat} (h : RepA D cy B H0 m H) (hk : (m_sh m a).1 = k) (hk2 : 20 ≤ k) (hk3 : k < 25) : H[B + a]? = some (arrV (cy k) (m_sh m a).2 (arrF B m a k)) := by
  have h1 := h.2.2.1 a (h.lt hk (by omega))
  unfold celA at h1
  rw [hk, if_neg (by omega)] at h1
  exact h1
theorem up_s {α : Type} (f : Nat → α) (k : Nat) (v : α) : va_up f k v k = v := if_pos rfl
theorem up_n {α : Type} (f : Nat → α) {k j : Nat} (v : α) (h : j ≠ k) : va_up f k v j = f j := if_neg h
theorem inb_in {i : Int32} {n : Nat} (h : inb i n = true) : ¬ i < 0 ∧ i.toNatClampNeg < n := by
  unfold inb at h
  simp only [Bool.and_eq_true, Bool.not_eq_true', decide_eq_false_iff_not, decide_eq_true_eq] at h
  exact h
theorem inb_vp {i : Int32} {n : Nat} (h : inb i n = true) : ¬ (i < 0 ∨ n ≤ i.toNatClampNeg) := by
  obtain ⟨h1, h2⟩ := inb_in h
  rintro (q | q)
  · exact h1 q
  · omega
/-! the locals -/
def isU (v : Value) : Bool := match v with
  | .retAddr _ => true
  | _ => false
def lvo (B : Nat) (SA : Nat → Nat) (L : List Value) : List (Nat × Value) := (List.range L.length).filterMap (fun i => match L[i]? with
  | none => none
  | some v => if isU v then none else some (i, cvV B SA v))
theorem lvo_mem {B : Nat} {SA : Nat → Nat} {L : List Value} {q : Nat × Value} : q ∈ lvo B SA L ↔ ∃ v, L[q.1]? = some v ∧ isU v = false ∧ q.2 = cvV B SA v := by
  unfold lvo
  rw [List.mem_filterMap]
  constructor
  · rintro ⟨i, -, h⟩
    cases hv : L[i]? with
    | none => rw [hv] at h; cases h
    | some v =>
      rw [hv] at h
      simp only at h
      by_cases hu : isU v = true
      · rw [if_pos hu] at h; cases h
      · rw [if_neg hu] at h
        cases h
        exact ⟨v, hv, by simpa using hu, rfl⟩
  · rintro ⟨v, hv, hu, he⟩
    obtain ⟨i, w⟩ := q
    simp only at hv he
    subst he
    refine ⟨i, ?_, ?_⟩
    · rw [List.mem_range]; exact (List.getElem?_eq_some_iff.mp hv).1
    · rw [hv]; simp [hu]
def LO (B : Nat) (SA : Nat → Nat) (n : Nat) (ls : Array Slot) (L : List Value) : Prop := L.length = n ∧ lv_has ls n (lvo B SA L)
theorem lget_some {L : List Value} {i : Nat} {v : Value} (h : lget L i = v) (hu : isU v = false) : L[i]? = some v := by
  induction L generalizing i with
  | nil => simp only [lget] at h; subst h; cases hu
  | cons w L ih => cases i with
    | zero => simp only [lget] at h; subst h; rfl
    | succ i => simp only [lget] at h; simpa using ih h
theorem LO.at {B : Nat} {SA : Nat → Nat} {n i : Nat} {ls : Array Slot} {L : List Value} {v : Value} (h : LO B SA n ls L) (hv : lget L i = v) (hu : isU v = false) : ls[i]? = some (.val (cvV B SA v)) :=
  h.2.2.2 (i, cvV B SA v) (lvo_mem.mpr ⟨v, lget_some hv hu, hu, rfl⟩)
theorem lkil_len (L : List Value) (i : Nat) : (lkil L i).length = L.length := by
  induction L generalizing i with
  | nil => cases i <;> rfl
  | cons v L ih => match i with
    | 0 => rfl
    | 1 => rfl
    | i + 2 => simp [lkil, ih]
theorem lkil_get (L : List Value) (i j : Nat) : (lkil L i)[j]? = if j + 1 = i then (L[j]?).map kil else L[j]? := by
  induction L generalizing i j with
  | nil => cases i <;> simp [lkil]
  | cons v L ih => match i with
    | 0 => simp [lkil]
    | 1 => cases j <;> simp [lkil]
    | i + 2 => cases j with
      | zero => simp [lkil]
      | succ j => simp only [lkil, List.getElem?_cons_succ, ih]; congr 1; simp
theorem kil_u1 {v : Value} (h : isU (kil v) = false) : kil v = v ∧ v.category ≠ 2 := by
  cases v <;> simp [kil, isU, Value.category] at h ⊢
theorem LO.st1 {B : Nat} {SA : Nat → Nat} {n i : Nat} {ls ls' : Array Slot} {L : List Value} {x : Value} (h : LO B SA n ls L)
    (h' : lv_has ls' n ((i, cvV B SA x) :: (lvo B SA L).filter (fun q => !(q.1 == i) && !(q.1 + 1 == i && q.2.category == 2)))) : LO B SA n ls' (lst1 L i x) := by
  refine ⟨by unfold lst1; rw [List.length_set, lkil_len]; exact h.1, h'.1, h'.2.1, fun q hq => h'.2.2 q ?_⟩
  obtain ⟨v, h1, h2, h3⟩ := lvo_mem.mp hq
  obtain ⟨j, w⟩ := q
  simp only at h1 h3 ⊢
  subst h3
  unfold lst1 at h1
  by_cases e : j = i
  · subst e
    have hl : j < (lkil L j).length := by have := (List.getElem?_eq_some_iff.mp h1).1; simpa using this
    rw [List.getElem?_set_self hl] at h1
    cases h1
    exact List.mem_cons_self
  · rw [List.getElem?_set_ne (fun q => e q.symm), lkil_get] at h1
    refine List.mem_cons_of_mem _ (List.mem_filter.mpr ⟨lvo_mem.mpr ?_, ?_⟩)
    · by_cases e2 : j + 1 = i
      · rw [if_pos e2] at h1
        cases hL : L[j]? with
        | none => rw [hL] at h1; cases h1
        | some u =>
          rw [hL] at h1
          simp only [Option.map_some, Option.some.injEq] at h1
          subst h1
          obtain ⟨k1, -⟩ := kil_u1 h2
          exact ⟨u, by simpa using hL, by rw [← k1]; exact h2, by simp [k1]⟩
      · rw [if_neg e2] at h1
        exact ⟨v, h1, h2, rfl⟩
    · have e3 : (j == i) = false := by simpa using e
      simp only [e3, Bool.not_false, Bool.true_and, Bool.not_eq_true', Bool.and_eq_false_iff, beq_eq_false_iff_ne, ne_eq]
      by_cases e2 : j + 1 = i
      · right
        rw [if_pos e2] at h1
        cases hL : L[j]? with
        | none => rw [hL] at h1; cases h1
        | some u =>
          rw [hL] at h1
          simp only [Option.map_some, Option.some.injEq] at h1
          subst h1
          obtain ⟨k1, k2⟩ := kil_u1 h2
          rw [k1]; cases u <;> simp_all [cvV, Value.category]
      · exact Or.inl e2
theorem LO.st2 {B : Nat} {SA : Nat → Nat} {n i : Nat} {ls ls' : Array Slot} {L : List Value} {x : Value} (h : LO B SA n ls L)
    (h' : lv_has ls' n ((i, cvV B SA x) :: (lvo B SA L).filter (fun q => !(q.1 == i) && (!(q.1 == i + 1) && !(q.1 + 1 == i && q.2.category == 2))))) : LO B SA n ls' (lst2 L i x) := by
  refine ⟨by unfold lst2; rw [List.length_set, List.length_set, lkil_len]; exact h.1, h'.1, h'.2.1, fun q hq => h'.2.2 q ?_⟩
  obtain ⟨v, h1, h2, h3⟩ := lvo_mem.mp hq
  obtain ⟨j, w⟩ := q
  simp only at h1 h3 ⊢
  subst h3
  unfold lst2 at h1
  by_cases e0 : j = i + 1
  · subst e0
    have hl : i + 1 < ((lkil L i).set i x).length := by have := (List.getElem?_eq_some_iff.mp h1).1; simpa using this
    rw [List.getElem?_set_self hl] at h1
    cases h1
    cases h2
  rw [List.getElem?_set_ne (fun q => e0 q.symm)] at h1
  by_cases e : j = i
  · subst e
    have hl : j < (lkil L j).length := by have := (List.getElem?_eq_some_iff.mp h1).1; simpa using this
    rw [List.getElem?_set_self hl] at h1
    cases h1
    exact List.mem_cons_self
  · rw [List.getElem?_set_ne (fun q => e q.symm), lkil_get] at h1
    refine List.mem_cons_of_mem _ (List.mem_filter.mpr ⟨lvo_mem.mpr ?_, ?_⟩)
    · by_cases e2 : j + 1 = i
      · rw [if_pos e2] at h1
        cases hL : L[j]? with
        | none => rw [hL] at h1; cases h1
        | some u =>
          rw [hL] at h1
          simp only [Option.map_some, Option.some.injEq] at h1
          subst h1
          obtain ⟨k1, -⟩ := kil_u1 h2
          exact ⟨u, by simpa using hL, by rw [← k1]; exact h2, by simp [k1]⟩
      · rw [if_neg e2] at h1
        exact ⟨v, h1, h2, rfl⟩
    · have e3 : (j == i) = false := by simpa using e
      have e4 : (j == i + 1) = false := by simpa using e0
      simp only [e3, e4, Bool.not_false, Bool.true_and, Bool.not_eq_true', Bool.and_eq_false_iff, beq_eq_false_iff_ne, ne_eq]
      by_cases e2 : j + 1 = i
      · right
        rw [if_pos e2] at h1
        cases hL : L[j]? with
        | none => rw [hL] at h1; cases h1
        | some u =>
          rw [hL] at h1
          simp only [Option.map_some, Option.some.injEq] at h1
          subst h1
          obtain ⟨k1, k2⟩ := kil_u1 h2
          rw [k1]; cases u <;> simp_all [cvV, Value.category]
      · exact Or.inl e2
