/-! ===== building: the memory while the constructors run ===== -/
def ZP : Nat → Nat
  | 0 => 0
  | n + 1 => ZP n + (SH n).2
def SHp (n a : Nat) : Nat × Nat := if a < n then SH a else (99, 0)
def mkS (n : Nat) (R : Nat → Nat → Option Nat) (I : Nat → Nat → Int32) (J : Nat → Nat → Int64) : Mem := (n, ZP n, SHp n, R, I, J)
def nR : Nat → Option Nat := fun _ => none
def zI : Nat → Int32 := fun _ => 0
def zJ : Nat → Int64 := fun _ => 0
section BLD
variable {n a k l w e : Nat} {R : Nat → Nat → Option Nat} {I : Nat → Nat → Int32} {J : Nat → Nat → Int64}
theorem SHp_s (h : SH n = (k, l)) : va_up (SHp n) n (k, l) = SHp (n + 1) := by
  funext x
  by_cases z : x = n
  · subst z
    rw [vu_eq, ← h]
    exact (if_pos (Nat.lt_succ_self _)).symm
  · rw [vu_ne z]
    by_cases q : x < n
    · exact (if_pos q).trans (if_pos (Nat.lt_succ_of_lt q)).symm
    · exact (if_neg q).trans (if_neg (by omega)).symm
theorem S_nw (h : SH n = (k, l)) : m_nw (mkS n R I J) k l = mkS (n + 1) (va_up R n nR) (va_up I n zI) (va_up J n zJ) := by
  have e2 : ZP n + l = ZP (n + 1) := by rw [ZP, h]
  show (n + 1, ZP n + l, va_up (SHp n) n (k, l), va_up R n nR, va_up I n zI, va_up J n zJ) = (n + 1, ZP (n + 1), SHp (n + 1), va_up R n nR, va_up I n zI, va_up J n zJ)
  rw [SHp_s h, e2]
theorem S_sh (h : a < n) : m_sh (mkS n R I J) a = SH a := if_pos h
theorem S_n : m_n (mkS n R I J) = n := rfl
theorem S_R : m_R (mkS n R I J) = R := rfl
theorem S_I : m_I (mkS n R I J) = I := rfl
theorem S_J : m_J (mkS n R I J) = J := rfl
theorem S_wI {v : Int32} : m_wI (mkS n R I J) a k v = mkS n R (va_up I a (va_up (I a) k v)) J := rfl
theorem S_wJ {v : Int64} : m_wJ (mkS n R I J) a k v = mkS n R I (va_up J a (va_up (J a) k v)) := rfl
theorem S_wR {v : Option Nat} : m_wR (mkS n R I J) a k v = mkS n (va_up R a (va_up (R a) k v)) I J := rfl
theorem S_rI {f : Nat → Int32} : m_rI (mkS n R I J) a f = mkS n R (va_up I a f) J := rfl
theorem S_rJ {f : Nat → Int64} : m_rJ (mkS n R I J) a f = mkS n R I (va_up J a f) := rfl
theorem MW_mkS {W : Nat} {j : Nat → Int64} {c f1 f2 f3 : Nat → Int32} : MW (mkS n R I J) W j c f1 f2 f3 = mkS n R (va_up (va_up (va_up (va_up I W c) (W + 1) f1) (W + 2) f2) (W + 3) f3) (va_up J W j) := rfl
theorem RR_nil (h : rrL.getD a [] = []) : RR a = nR := by
  funext x
  show (rrL.getD a []).getD x none = none
  rw [h]; rfl
/-- what is built from w up to e stands -/
def fq (R : Nat → Nat → Option Nat) (w e : Nat) : Nat → Nat → Option Nat := fun x => if w ≤ x ∧ x < e then RR x else R x
/-- the same, but the row of w itself is still open -/
def fr (R : Nat → Nat → Option Nat) (w n : Nat) (row : Nat → Option Nat) : Nat → Nat → Option Nat := fun x => if x = w then row else if w < x ∧ x < n then RR x else R x
variable {row row' x4 x5 y4 : Nat → Option Nat}
theorem fr_at : fr R w n row w = row := if_pos rfl
theorem fr_put : va_up (fr R w n row) w row' = fr R w n row' := by
  funext x
  by_cases z : x = w
  · subst z; rw [vu_eq]; exact fr_at.symm
  · rw [vu_ne z]; exact (if_neg z).trans (if_neg z).symm
theorem fr_ar (hw : w < n) (h : RR n = nR) : va_up (fr R w n row) n nR = fr R w (n + 1) row := by
  funext x
  by_cases z : x = n
  · subst z; rw [vu_eq, ← h]; exact ((if_neg (by omega)).trans (if_pos (by omega))).symm
  · rw [vu_ne z]
    unfold fr
    by_cases z1 : x = w
    · rw [if_pos z1, if_pos z1]
    · rw [if_neg z1, if_neg z1]
      by_cases z2 : w < x ∧ x < n
      · rw [if_pos z2, if_pos (by omega)]
      · rw [if_neg z2, if_neg (by omega)]
theorem fr_ch (hw : w < n) (he : n < e) : fq (va_up (fr R w n row) n nR) n e = fr R w e row := by
  funext x
  show (if n ≤ x ∧ x < e then RR x else va_up (fr R w n row) n nR x) = if x = w then row else if w < x ∧ x < e then RR x else R x
  by_cases z : n ≤ x ∧ x < e
  · rw [if_pos z, if_neg (by omega), if_pos (by omega)]
  · rw [if_neg z, vu_ne (by omega)]
    unfold fr
    by_cases z1 : x = w
    · rw [if_pos z1, if_pos z1]
    · rw [if_neg z1, if_neg z1]
      by_cases z2 : w < x ∧ x < n
      · rw [if_pos z2, if_pos (by omega)]
      · rw [if_neg z2, if_neg (by omega)]
theorem fr_0 (h : R w = nR) : R = fr R w (w + 1) nR := by
  funext x
  by_cases z : x = w
  · subst z; rw [fr_at]; exact h
  · exact ((if_neg z).trans (if_neg (by omega))).symm
theorem fr_fq (h : row = RR w) (hw : w < e) : fr R w e row = fq R w e := by
  funext x
  show (if x = w then row else if w < x ∧ x < e then RR x else R x) = if w ≤ x ∧ x < e then RR x else R x
  by_cases z : x = w
  · subst z; rw [if_pos rfl, if_pos (by omega), h]
  · rw [if_neg z]
    by_cases z2 : w < x ∧ x < e
    · rw [if_pos z2, if_pos (by omega)]
    · rw [if_neg z2, if_neg (by omega)]
/-- a world: its own row and those of its two rows of objects are open -/
def fw (R : Nat → Nat → Option Nat) (w n : Nat) (row x4 x5 : Nat → Option Nat) : Nat → Nat → Option Nat := fun x => if x = w then row else if x = w + 4 then x4 else if x = w + 5 then x5 else if w < x ∧ x < n then RR x else R x
theorem fw_at : fw R w n row x4 x5 w = row := if_pos rfl
theorem fw_at4 (h : a = w + 4) : fw R w n row x4 x5 a = x4 := by subst h; exact (if_neg (by omega)).trans (if_pos rfl)
theorem fw_at5 (h : a = w + 5) : fw R w n row x4 x5 a = x5 := by subst h; exact (if_neg (by omega)).trans ((if_neg (by omega)).trans (if_pos rfl))
theorem fw_put : va_up (fw R w n row x4 x5) w row' = fw R w n row' x4 x5 := by
  funext x
  by_cases z : x = w
  · subst z; rw [vu_eq]; exact fw_at.symm
  · rw [vu_ne z]; exact (if_neg z).trans (if_neg z).symm
theorem fw_put4 (h : a = w + 4) : va_up (fw R w n row x4 x5) a row' = fw R w n row row' x5 := by
  subst h
  funext x
  by_cases z : x = w + 4
  · subst z; rw [vu_eq]; exact (fw_at4 rfl).symm
  · rw [vu_ne z]; unfold fw; rw [if_neg z, if_neg z]
theorem fw_put5 (h : a = w + 5) : va_up (fw R w n row x4 x5) a row' = fw R w n row x4 row' := by
  subst h
  funext x
  by_cases z : x = w + 5
  · subst z; rw [vu_eq]; exact (fw_at5 rfl).symm
  · rw [vu_ne z]; unfold fw; rw [if_neg z, if_neg z]
theorem fw_n4 : fw R w (w + 4) row x4 x5 = fw R w (w + 5) row x4 x5 := by
  funext x
  unfold fw
  by_cases z1 : x = w
  · rw [if_pos z1, if_pos z1]
  · rw [if_neg z1, if_neg z1]
    by_cases z4 : x = w + 4
    · rw [if_pos z4, if_pos z4]
    · rw [if_neg z4, if_neg z4]
      by_cases z5 : x = w + 5
      · rw [if_pos z5, if_pos z5]
      · rw [if_neg z5, if_neg z5]
        by_cases z2 : w < x ∧ x < w + 4
        · rw [if_pos z2, if_pos (by omega)]
        · rw [if_neg z2, if_neg (by omega)]
theorem fw_n5 : fw R w (w + 5) row x4 x5 = fw R w (w + 6) row x4 x5 := by
  funext x
  unfold fw
  by_cases z1 : x = w
  · rw [if_pos z1, if_pos z1]
  · rw [if_neg z1, if_neg z1]
    by_cases z4 : x = w + 4
    · rw [if_pos z4, if_pos z4]
    · rw [if_neg z4, if_neg z4]
      by_cases z5 : x = w + 5
      · rw [if_pos z5, if_pos z5]
      · rw [if_neg z5, if_neg z5]
        by_cases z2 : w < x ∧ x < w + 5
        · rw [if_pos z2, if_pos (by omega)]
        · rw [if_neg z2, if_neg (by omega)]
theorem fw_ar (hw : w < n) (h4 : n ≠ w + 4) (h5 : n ≠ w + 5) (h : RR n = nR) : va_up (fw R w n row x4 x5) n nR = fw R w (n + 1) row x4 x5 := by
  funext x
  by_cases z : x = n
  · subst z; rw [vu_eq, ← h]; exact ((if_neg (by omega)).trans ((if_neg h4).trans ((if_neg h5).trans (if_pos (by omega))))).symm
  · rw [vu_ne z]
    unfold fw
    by_cases z1 : x = w
    · rw [if_pos z1, if_pos z1]
    · rw [if_neg z1, if_neg z1]
      by_cases z4 : x = w + 4
      · rw [if_pos z4, if_pos z4]
      · rw [if_neg z4, if_neg z4]
        by_cases z5 : x = w + 5
        · rw [if_pos z5, if_pos z5]
        · rw [if_neg z5, if_neg z5]
          by_cases z2 : w < x ∧ x < n
          · rw [if_pos z2, if_pos (by omega)]
          · rw [if_neg z2, if_neg (by omega)]
theorem fw_ar6 (hn : n = w + 4) (ha : a = w + 6) (h : RR a = nR) : va_up (fw R w n row x4 x5) a nR = fw R w (a + 1) row x4 x5 := by
  subst hn; subst ha
  rw [fw_n4, fw_n5, fw_ar (by omega) (by omega) (by omega) h]
theorem fw_ch (hw : w + 5 < n) (he : n < e) : fq (va_up (fw R w n row x4 x5) n nR) n e = fw R w e row x4 x5 := by
  funext x
  show (if n ≤ x ∧ x < e then RR x else va_up (fw R w n row x4 x5) n nR x) = if x = w then row else if x = w + 4 then x4 else if x = w + 5 then x5 else if w < x ∧ x < e then RR x else R x
  by_cases z : n ≤ x ∧ x < e
  · rw [if_pos z, if_neg (by omega), if_neg (by omega), if_neg (by omega), if_pos (by omega)]
  · rw [if_neg z, vu_ne (by omega)]
    unfold fw
    by_cases z1 : x = w
    · rw [if_pos z1, if_pos z1]
    · rw [if_neg z1, if_neg z1]
      by_cases z4 : x = w + 4
      · rw [if_pos z4, if_pos z4]
      · rw [if_neg z4, if_neg z4]
        by_cases z5 : x = w + 5
        · rw [if_pos z5, if_pos z5]
        · rw [if_neg z5, if_neg z5]
          by_cases z2 : w < x ∧ x < n
          · rw [if_pos z2, if_pos (by omega)]
          · rw [if_neg z2, if_neg (by omega)]
theorem fwb_0 (h : R w = nR) : R = fw R w (w + 1) nR (R (w + 4)) (R (w + 5)) := by
  funext x
  unfold fw
  by_cases z : x = w
  · subst z; rw [if_pos rfl]; exact h
  · rw [if_neg z]
    by_cases z4 : x = w + 4
    · rw [if_pos z4, z4]
    · rw [if_neg z4]
      by_cases z5 : x = w + 5
      · rw [if_pos z5, z5]
      · rw [if_neg z5, if_neg (by omega)]
theorem fw_fq (h : row = RR w) (h4 : x4 = RR (w + 4)) (h5 : x5 = RR (w + 5)) (hw : w + 5 < e) : fw R w e row x4 x5 = fq R w e := by
  funext x
  show (if x = w then row else if x = w + 4 then x4 else if x = w + 5 then x5 else if w < x ∧ x < e then RR x else R x) = if w ≤ x ∧ x < e then RR x else R x
  by_cases z : x = w
  · subst z; rw [if_pos rfl, if_pos (by omega), h]
  · rw [if_neg z]
    by_cases z4 : x = w + 4
    · rw [if_pos z4, if_pos (by omega), h4, z4]
    · rw [if_neg z4]
      by_cases z5 : x = w + 5
      · rw [if_pos z5, if_pos (by omega), h5, z5]
      · rw [if_neg z5]
        by_cases z2 : w < x ∧ x < e
        · rw [if_pos z2, if_pos (by omega)]
        · rw [if_neg z2, if_neg (by omega)]
end BLD
def SSs := And.intro @S_nw (And.intro @S_sh (And.intro @S_n (And.intro @S_R (And.intro @S_I (And.intro @S_J (And.intro @S_wI (And.intro @S_wJ (And.intro @S_wR (And.intro @S_rI @S_rJ)))))))))
def FRs := And.intro @fr_at (And.intro @fr_put @fr_ar)
def FWs := And.intro @fw_at (And.intro @fw_at4 (And.intro @fw_at5 (And.intro @fw_put (And.intro @fw_put4 (And.intro @fw_put5 (And.intro @fw_ar6 @fw_ar))))))
