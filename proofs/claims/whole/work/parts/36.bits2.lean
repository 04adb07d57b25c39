/-! ===== words of numbers and bits, for simp ===== -/
theorem q_dt {p : Prop} [Decidable p] (h : p) : decide p = true := decide_eq_true h
theorem q_df {p : Prop} [Decidable p] (h : ¬ p) : decide p = false := decide_eq_false h
theorem n_shl1 : ∀ k, k < 32 → nI 1 <<< (nI k &&& 31) = nI (2 ^ k) := by decide +kernel
theorem bt_nI {a j : Nat} (hj : j < 32) : bt (nI a) j = a.testBit j := by
  show (BitVec.ofNat 32 a).getLsbD j = _
  rw [BitVec.getLsbD_ofNat]; simp [hj]
theorem n_ushr {a k : Nat} (ha : a < 2 ^ 32) (hk : k < 32) : ((nI a).toUInt32 >>> ((nI k).toUInt32 &&& Int32.toUInt32 31)).toInt32 = nI (a / 2 ^ k) := by
  apply b_ext
  intro i hi
  rw [b_ushr k hk, bt_nI hi, Nat.testBit_div_two_pow]
  rcases Nat.lt_or_ge (k + i) 32 with h | h
  · rw [bt_nI h, Nat.add_comm]
  · rw [b_big h, Nat.testBit_lt_two_pow (Nat.lt_of_lt_of_le ha (Nat.pow_le_pow_right (by decide) (by omega)))]
theorem n_sshr {a k : Nat} (ha : a < 2 ^ 31) (hk : k < 32) : nI a >>> (nI k &&& 31) = nI (a / 2 ^ k) := by
  apply b_ext
  intro i hi
  rw [b_sshr k hk _ hi, bt_nI hi, Nat.testBit_div_two_pow]
  split
  · next h => rw [bt_nI h, Nat.add_comm]
  · next h => rw [bt_nI (by decide), Nat.testBit_lt_two_pow ha, Nat.testBit_lt_two_pow (Nat.lt_of_lt_of_le ha (Nat.pow_le_pow_right (by decide) (by omega)))]
theorem n_bit {a k : Nat} : nI (a / 2 ^ k) &&& nI 1 = bI (a.testBit k) := by
  rw [fa_and, Nat.and_one_is_mod, Nat.testBit_eq_decide_div_mod_eq]
  rcases Nat.mod_two_eq_zero_or_one (a / 2 ^ k) with h | h <;> rw [h] <;> rfl
theorem l_bit {a k : Nat} : lg_cmp (lN (a / 2 ^ k) &&& lN 1) (lN 0) = bI (a.testBit k) := by
  rw [fb_andL, Nat.and_one_is_mod, Nat.testBit_eq_decide_div_mod_eq]
  rcases Nat.mod_two_eq_zero_or_one (a / 2 ^ k) with h | h <;> rw [h] <;> decide +kernel
theorem q_bI1 {c : Bool} : (bI c = nI 1) = (c = true) := propext (by cases c <;> decide +kernel)
theorem q_bI0' {c : Bool} : (bI c = nI 0) = (c = false) := propext (by cases c <;> decide +kernel)
theorem q_lsub {a b : Nat} (h : b ≤ a) : lN a - lN b = lN (a - b) := by
  have : lN a = lN (a - b) + lN b := by
    show Int64.ofNat a = Int64.ofNat (a - b) + Int64.ofNat b
    rw [← Int64.ofNat_add, Nat.sub_add_cancel h]
  rw [this, Int64.add_sub_cancel]
theorem q_ladd {a b : Nat} : lN a + lN b = lN (a + b) := (Int64.ofNat_add a b).symm
theorem q_l2i {a : Nat} : (lN a).toInt32 = nI a := by
  show (Int64.ofNat a).toInt32 = Int32.ofNat a
  first | exact Int64.toInt32_ofNat' | (apply Int32.toBitVec_inj.mp; apply BitVec.eq_of_toNat_eq; simp)
theorem q_if_t {α : Sort _} {x y : α} : (if true = true then x else y) = x := if_pos rfl
theorem q_false_eq : (false = true) = False := by simp
theorem q_true_eq : (true = false) = False := by simp
theorem q_sub1 {a b : Nat} (h : b ≤ a) : nI a - nI b = nI (a - b) := q_sub h
theorem q_lt2 {a b : Nat} (h : a < b) : (a < b) = True := eq_true h
theorem q_nlt2 {a b : Nat} (h : ¬ a < b) : (a < b) = False := eq_false h
theorem q_le2 {a b : Nat} (h : a ≤ b) : (a ≤ b) = True := eq_true h
theorem q_nle2 {a b : Nat} (h : ¬ a ≤ b) : (a ≤ b) = False := eq_false h
theorem q_0 : (0 : Int32) = nI 0 := rfl
theorem q_z : nI 0 = (0 : Int32) := rfl
def QX := And.intro @q_dt (And.intro @q_df (And.intro n_shl1 (And.intro @n_ushr (And.intro @n_sshr (And.intro @n_bit (And.intro @l_bit (And.intro @q_bI1 (And.intro @q_bI0' (And.intro @wb_shr (And.intro @wb_shl (And.intro @q_l2i (And.intro @q_sub1 (And.intro @q_ladd (And.intro @q_lsub @q_false_eq))))))))))))))
/-- downward: a loop from i to n -/
theorem lpd {n : Nat} {P : Nat → Prop} (h0 : P n) (hs : ∀ i, i < n → P (i + 1) → P i) : ∀ i, i ≤ n → P i := by
  intro i hi
  obtain ⟨k, rfl⟩ : ∃ k, n = i + k := ⟨n - i, by omega⟩
  clear hi
  induction k generalizing i with
  | zero => exact h0
  | succ k ih => exact hs i (by omega) (ih (i + 1) (by rwa [Nat.add_right_comm, Nat.add_assoc]) (fun j hj => hs j (by omega)))
theorem lp0 {n : Nat} {P : Nat → Prop} (h0 : P n) (hs : ∀ i, i < n → P (i + 1) → P i) : P 0 := lpd h0 hs 0 (Nat.zero_le n)
/-! ===== bits counted ===== -/
theorem s_bcI {X : Nat × (Nat → Int32)} {d : Nat} {M : Mem} {a : Nat} (hd : 1 ≤ d) (ha : a < 2 ^ 31) : callF X d 259 [.int (nI a)] M = some (some (.int (nI (pop a))), M) := by
  refine callF_at (by omega) (by decide) (Nat.le_of_ble_eq_true rfl) (fun d _ => ?_)
  show Ev X d 259 0 [.int (nI a)] [] M _
  rw [U_259_0]
  simp only [XX]
  have e0 : nI a - ((((nI a).toUInt32 >>> ((nI 1).toUInt32 &&& Int32.toUInt32 31)).toInt32) &&& nI 1431655765) = nI (sw_1 4 a) := by
    rw [n_ushr (by omega) (by decide), fa_and, q_sub (Nat.le_trans Nat.and_le_left (Nat.div_le_self _ _))]
    rfl
  have l1 : sw_1 4 a < 2 ^ 31 := Nat.lt_of_le_of_lt (Nat.sub_le _ _) ha
  rw [e0]
  have m51 : mkM 51 4 = 858993459 := rfl
  have m15 : mkM 15 4 = 252645135 := rfl
  have e1 : (nI (sw_1 4 a) &&& nI 858993459) + ((((nI (sw_1 4 a)).toUInt32 >>> ((nI 2).toUInt32 &&& Int32.toUInt32 31)).toInt32) &&& nI 858993459) = nI (sw_2 4 (sw_1 4 a)) := by
    rw [n_ushr (by omega) (by decide), fa_and, fa_and, nI_add]
    rfl
  rw [e1]
  have l2 : sw_2 4 (sw_1 4 a) < 2 ^ 31 := by
    have h1 : sw_1 4 a &&& mkM 51 4 ≤ mkM 51 4 := Nat.and_le_right
    have h2 : (sw_1 4 a / 4) &&& mkM 51 4 ≤ mkM 51 4 := Nat.and_le_right
    unfold sw_2; omega
  have e2 : (nI (sw_2 4 (sw_1 4 a)) + (((nI (sw_2 4 (sw_1 4 a))).toUInt32 >>> ((nI 4).toUInt32 &&& Int32.toUInt32 31)).toInt32)) &&& nI 252645135 = nI (sw_Q 4 a) := by
    rw [n_ushr (by omega) (by decide), nI_add, fa_and, ← sw_all 4 a (by show a < 4294967296; omega)]
    rfl
  rw [e2]
  have l3 : sw_Q 4 a < 2 ^ 28 := by
    rw [← sw_all 4 a (by show a < 4294967296; omega)]
    have : sw_3 4 (sw_2 4 (sw_1 4 a)) ≤ mkM 15 4 := Nat.and_le_right
    omega
  have e3 : nI (sw_Q 4 a) + (((nI (sw_Q 4 a)).toUInt32 >>> ((nI 8).toUInt32 &&& Int32.toUInt32 31)).toInt32) = nI (sw_Q 4 a + sw_Q 4 a / 256) := by
    rw [n_ushr (by omega) (by decide), nI_add]
  rw [e3]
  have e4 : nI (sw_Q 4 a + sw_Q 4 a / 256) + (((nI (sw_Q 4 a + sw_Q 4 a / 256)).toUInt32 >>> ((nI 16).toUInt32 &&& Int32.toUInt32 31)).toInt32) = nI ((sw_Q 4 a + sw_Q 4 a / 256) + (sw_Q 4 a + sw_Q 4 a / 256) / 65536) := by
    rw [n_ushr (by omega) (by decide), nI_add]
  rw [e4, fa_and, show (63 : Nat) = 2 ^ 6 - 1 from rfl, Nat.and_two_pow_sub_one_eq_mod, show (2 : Nat) ^ 6 = 64 from rfl, sw_sum32 (by omega) rfl]
theorem s_bcL {X : Nat × (Nat → Int32)} {d : Nat} {M : Mem} {a : Nat} (hd : 1 ≤ d) (ha : a < 2 ^ 64) : callF X d 260 [.long (lN a)] M = some (some (.int (nI (pop a))), M) := by
  refine callF_at (by omega) (by decide) (Nat.le_of_ble_eq_true rfl) (fun d _ => ?_)
  show Ev X d 260 0 [.long (lN a), .retAddr 0] [] M _
  rw [U_260_0]
  simp only [XX]
  have e0 : lN a - ((((lN a).toUInt64 >>> ((nI 1).toInt64.toUInt64 &&& Int64.toUInt64 63)).toInt64) &&& lN 6148914691236517205) = lN (sw_1 8 a) := by
    rw [wb_shr (by omega) (by decide), fb_andL, q_lsub (Nat.le_trans Nat.and_le_left (Nat.div_le_self _ _))]
    rfl
  have l1 : sw_1 8 a < 2 ^ 64 := Nat.lt_of_le_of_lt (Nat.sub_le _ _) ha
  rw [e0]
  have m51 : mkM 51 8 = 3689348814741910323 := rfl
  have m15 : mkM 15 8 = 1085102592571150095 := rfl
  have e1 : (lN (sw_1 8 a) &&& lN 3689348814741910323) + ((((lN (sw_1 8 a)).toUInt64 >>> ((nI 2).toInt64.toUInt64 &&& Int64.toUInt64 63)).toInt64) &&& lN 3689348814741910323) = lN (sw_2 8 (sw_1 8 a)) := by
    rw [wb_shr (by omega) (by decide), fb_andL, fb_andL, q_ladd]
    rfl
  rw [e1]
  have l2 : sw_2 8 (sw_1 8 a) < 2 ^ 63 := by
    have h1 : sw_1 8 a &&& mkM 51 8 ≤ mkM 51 8 := Nat.and_le_right
    have h2 : (sw_1 8 a / 4) &&& mkM 51 8 ≤ mkM 51 8 := Nat.and_le_right
    unfold sw_2; omega
  have e2 : (lN (sw_2 8 (sw_1 8 a)) + (((lN (sw_2 8 (sw_1 8 a))).toUInt64 >>> ((nI 4).toInt64.toUInt64 &&& Int64.toUInt64 63)).toInt64)) &&& lN 1085102592571150095 = lN (sw_Q 8 a) := by
    rw [wb_shr (by omega) (by decide), q_ladd, fb_andL, ← sw_all 8 a ha]
    rfl
  rw [e2]
  have l3 : sw_Q 8 a < 2 ^ 62 := by
    rw [← sw_all 8 a ha]
    have : sw_3 8 (sw_2 8 (sw_1 8 a)) ≤ mkM 15 8 := Nat.and_le_right
    omega
  have e3 : lN (sw_Q 8 a) + (((lN (sw_Q 8 a)).toUInt64 >>> ((nI 8).toInt64.toUInt64 &&& Int64.toUInt64 63)).toInt64) = lN (sw_Q 8 a + sw_Q 8 a / 256) := by
    rw [wb_shr (by omega) (by decide), q_ladd]
  rw [e3]
  have e4 : lN (sw_Q 8 a + sw_Q 8 a / 256) + (((lN (sw_Q 8 a + sw_Q 8 a / 256)).toUInt64 >>> ((nI 16).toInt64.toUInt64 &&& Int64.toUInt64 63)).toInt64) = lN ((sw_Q 8 a + sw_Q 8 a / 256) + (sw_Q 8 a + sw_Q 8 a / 256) / 65536) := by
    rw [wb_shr (by omega) (by decide), q_ladd]
  rw [e4]
  have e5 : lN ((sw_Q 8 a + sw_Q 8 a / 256) + (sw_Q 8 a + sw_Q 8 a / 256) / 65536) + (((lN ((sw_Q 8 a + sw_Q 8 a / 256) + (sw_Q 8 a + sw_Q 8 a / 256) / 65536)).toUInt64 >>> ((nI 32).toInt64.toUInt64 &&& Int64.toUInt64 63)).toInt64) = lN ((sw_Q 8 a + sw_Q 8 a / 256) + (sw_Q 8 a + sw_Q 8 a / 256) / 65536 + ((sw_Q 8 a + sw_Q 8 a / 256) + (sw_Q 8 a + sw_Q 8 a / 256) / 65536) / 4294967296) := by
    rw [wb_shr (by omega) (by decide), q_ladd]
  rw [e5, q_l2i, fa_and, show (127 : Nat) = 2 ^ 7 - 1 from rfl, Nat.and_two_pow_sub_one_eq_mod, show (2 : Nat) ^ 7 = 128 from rfl, sw_sum64 rfl]
