/-! ===== numbers and memory, for simp ===== -/
section QB
variable {a b n k : Nat} {x : Int32}
theorem q_lt0 (ha : a < 2 ^ 31) : (nI a < 0) = False := eq_false (nI_pos ha)
theorem q_0le (ha : a < 2 ^ 31) : (0 ≤ nI a) = True := eq_true (nI_pos' ha)
theorem q_0lt (ha : a < 2 ^ 31) : (0 < nI a) = (0 < a) := propext (nI_ltI (a := 0) (b := a) (by decide) ha)
theorem q_le0 (ha : a < 2 ^ 31) : (nI a ≤ 0) = (a = 0) := propext ((nI_leI (a := a) (b := 0) ha (by decide)).trans Nat.le_zero)
theorem q_eq0 (ha : a < 2 ^ 31) : (nI a = 0) = (a = 0) := propext (nI_eq (a := a) (b := 0) ha (by decide))
theorem q_lt (ha : a < 2 ^ 31) (hb : b < 2 ^ 31) : (nI a < nI b) = (a < b) := propext (nI_ltI ha hb)
theorem q_le (ha : a < 2 ^ 31) (hb : b < 2 ^ 31) : (nI a ≤ nI b) = (a ≤ b) := propext (nI_leI ha hb)
theorem q_eq (ha : a < 2 ^ 31) (hb : b < 2 ^ 31) : (nI a = nI b) = (a = b) := propext (nI_eq ha hb)
theorem q_m1 : -(nI 1) = (-1 : Int32) := by decide +kernel
theorem q_m2 : -(nI 2) = (-2 : Int32) := by decide +kernel
theorem q_m1i : (-1 : Int32).toInt = -1 := by decide +kernel
theorem q_em (ha : a < 2 ^ 31) : (nI a = -1) = False := eq_false (by rw [← Int32.toInt_inj, nI_toInt ha, q_m1i]; omega)
theorem q_me (ha : a < 2 ^ 31) : (-1 = nI a) = False := eq_false (by rw [← Int32.toInt_inj, nI_toInt ha, q_m1i]; omega)
theorem q_ltm (ha : a < 2 ^ 31) : (nI a < -1) = False := eq_false (by rw [Int32.lt_iff_toInt_lt, nI_toInt ha, q_m1i]; omega)
theorem q_mlt (ha : a < 2 ^ 31) : (-1 < nI a) = True := eq_true (by rw [Int32.lt_iff_toInt_lt, nI_toInt ha, q_m1i]; omega)
theorem q_lem (ha : a < 2 ^ 31) : (nI a ≤ -1) = False := eq_false (by rw [Int32.le_iff_toInt_le, nI_toInt ha, q_m1i]; omega)
theorem q_mle (ha : a < 2 ^ 31) : (-1 ≤ nI a) = True := eq_true (by rw [Int32.le_iff_toInt_le, nI_toInt ha, q_m1i]; omega)
theorem q_ml0 : ((-1 : Int32) < 0) = True := eq_true (by decide +kernel)
theorem q_0lm : ((0 : Int32) ≤ -1) = False := eq_false (by decide +kernel)
theorem q_add : nI a + nI b = nI (a + b) := nI_add a b
theorem q_sub (h : b ≤ a) : nI a - nI b = nI (a - b) := by
  have : nI a = nI (a - b) + nI b := by rw [nI_add, Nat.sub_add_cancel h]
  rw [this, Int32.add_sub_cancel]
theorem q_mul : nI a * nI b = nI (a * b) := (Int32.ofNat_mul a b).symm
theorem q_div (ha : a < 2 ^ 31) (hb : b < 2 ^ 31) (h0 : 0 < b) : nI a / nI b = nI (a / b) := by
  apply Int32.toInt_inj.mp
  have hd : a / b < 2 ^ 31 := Nat.lt_of_le_of_lt (Nat.div_le_self a b) ha
  rw [nI_toInt hd, Int32.toInt_div, nI_toInt ha, nI_toInt hb, Int.tdiv_eq_ediv_of_nonneg (Int.natCast_nonneg a), ← Int.natCast_ediv]
  generalize a / b = q at hd ⊢
  exact fb_bmod (by omega) (by omega)
theorem q_inb (ha : a < 2 ^ 31) : (inb (nI a) n = true) = (a < n) := by
  unfold inb
  rw [nI_clamp ha, decide_eq_false (nI_pos ha)]
  simp
theorem q_cl (ha : a < 2 ^ 31) : (nI a).toNatClampNeg = a := nI_clamp ha
theorem q_b0 : (nI 0 &&& 1 = nI 0) = True := eq_true (by decide +kernel)
theorem q_b1 : (nI 1 &&& 1 = nI 1) = True := eq_true (by decide +kernel)
theorem q_bb {c : Bool} : (bI c &&& 1 = bI c) = True := eq_true (by cases c <;> decide +kernel)
theorem q_b00 : ((0 : Int32) &&& 1 = 0) = True := eq_true (by decide +kernel)
theorem q_b11 : ((1 : Int32) &&& 1 = 1) = True := eq_true (by decide +kernel)
theorem q_bI0 {c : Bool} : (bI c = 0) = (c = false) := propext (by cases c <;> decide +kernel)
theorem q_bIn {c : Bool} : (0 < bI c) = (c = true) := propext (by cases c <;> decide +kernel)
theorem q_t : bI true = nI 1 := rfl
theorem q_f : bI false = nI 0 := rfl
end QB
section QM
variable {M : Mem} {a b k : Nat} {v : Int32} {f g : Nat → Int32} {w : Int64} {h l : Nat → Int64}
theorem w_wI : m_wI M a k v = m_rI M a (va_up (m_I M a) k v) := rfl
theorem w_wJ : m_wJ M a k w = m_rJ M a (va_up (m_J M a) k w) := rfl
theorem w_sI : m_sh (m_rI M a f) = m_sh M := rfl
theorem w_RI : m_R (m_rI M a f) = m_R M := rfl
theorem w_JI : m_J (m_rI M a f) = m_J M := rfl
theorem w_nI : m_n (m_rI M a f) = m_n M := rfl
theorem w_zI : m_z (m_rI M a f) = m_z M := rfl
theorem w_sJ : m_sh (m_rJ M a h) = m_sh M := rfl
theorem w_RJ : m_R (m_rJ M a h) = m_R M := rfl
theorem w_IJ : m_I (m_rJ M a h) = m_I M := rfl
theorem w_nJ : m_n (m_rJ M a h) = m_n M := rfl
theorem w_zJ : m_z (m_rJ M a h) = m_z M := rfl
theorem w_II : m_I (m_rI M a f) a = f := if_pos rfl
theorem w_IIn (e : b ≠ a) : m_I (m_rI M a f) b = m_I M b := if_neg e
theorem w_JJ : m_J (m_rJ M a h) a = h := if_pos rfl
theorem w_JJn (e : b ≠ a) : m_J (m_rJ M a h) b = m_J M b := if_neg e
theorem w_rr : m_rI (m_rI M a f) a g = m_rI M a g := by
  show (_, _, _, _, va_up (va_up (m_I M) a f) a g, _) = (_, _, _, _, va_up (m_I M) a g, _)
  have : va_up (va_up (m_I M) a f) a g = va_up (m_I M) a g := by
    funext j; unfold va_up; split <;> rfl
  rw [this]; rfl
theorem w_rrJ : m_rJ (m_rJ M a h) a l = m_rJ M a l := by
  show (_, _, _, _, _, va_up (va_up (m_J M) a h) a l) = (_, _, _, _, _, va_up (m_J M) a l)
  have : va_up (va_up (m_J M) a h) a l = va_up (m_J M) a l := by
    funext j; unfold va_up; split <;> rfl
  rw [this]; rfl
theorem w_id : m_rI M a (m_I M a) = M := by
  show (_, _, _, _, va_up (m_I M) a (m_I M a), _) = M
  have : va_up (m_I M) a (m_I M a) = m_I M := by
    funext j; unfold va_up; split
    · next e => rw [e]
    · rfl
  rw [this]; rfl
theorem w_cm (e : a ≠ b) : m_rI (m_rI M a f) b g = m_rI (m_rI M b g) a f := by
  show (_, _, _, _, va_up (va_up (m_I M) a f) b g, _) = (_, _, _, _, va_up (va_up (m_I M) b g) a f, _)
  have : va_up (va_up (m_I M) a f) b g = va_up (va_up (m_I M) b g) a f := by
    funext j; unfold va_up
    by_cases h1 : j = b
    · have h2 : ¬ j = a := fun z => e (z.symm.trans h1)
      rw [if_pos h1, if_neg h2, if_pos h1]
    · rw [if_neg h1]; split <;> rfl
  rw [this]; rfl
end QM
def QQ := And.intro @q_lt0 (And.intro @q_0le (And.intro @q_0lt (And.intro @q_le0 (And.intro @q_eq0 (And.intro @q_lt (And.intro @q_le (And.intro @q_eq (And.intro @q_m1 (And.intro @q_m2 (And.intro @q_em (And.intro @q_me (And.intro @q_ltm (And.intro @q_mlt (And.intro @q_lem (And.intro @q_mle (And.intro @q_ml0 (And.intro @q_0lm (And.intro @q_add (And.intro @q_mul (And.intro @q_inb (And.intro @q_cl (And.intro @q_b0 (And.intro @q_b1 (And.intro @q_bb (And.intro @q_b00 (And.intro @q_b11 (And.intro @q_bI0 (And.intro @q_bIn (And.intro @q_t @q_f)))))))))))))))))))))))))))))
def WW := And.intro @w_wI (And.intro @w_wJ (And.intro @w_sI (And.intro @w_RI (And.intro @w_JI (And.intro @w_nI (And.intro @w_zI (And.intro @w_sJ (And.intro @w_RJ (And.intro @w_IJ (And.intro @w_nJ (And.intro @w_zJ (And.intro @w_II (And.intro @w_IIn (And.intro @w_JJ (And.intro @w_JJn (And.intro @w_rr @w_rrJ))))))))))))))))
theorem callF_at {X : Nat × (Nat → Int32)} {d mi : Nat} {m : Mem} {r : Option Value × Mem} {args : List Value} (hd : 1 ≤ d) (h : mi < 1000) (h2 : (flatA args).length ≤ ML mi) (e : ∀ d', d = d' + 1 → Ev X d' mi 0 (entL mi args) [] m r) : callF X d mi args m = some r := by
  obtain ⟨d', rfl⟩ : ∃ d', d = d' + 1 := ⟨d - 1, by omega⟩
  exact callF_of h h2 (e d' rfl)
theorem z_ite_not {α : Sort _} {c : Prop} [Decidable c] {x y : α} : (if ¬ c then x else y) = if c then y else x := by by_cases h : c <;> simp [h]
