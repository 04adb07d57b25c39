/-! ===== the words that the abstract code rests on stand in the tables, by their places (wip/whole/emit_w8.py) ===== -/
def nHost : String := "OldNeighbours"
def tb (k : Nat) : List Cond := match k with
  | 0 => k2_sels lw_privs
  | 1 => tables_1_1
  | 2 => tables_1_2
  | 3 => tables_1_3
  | 4 => tables_1_4
  | 5 => tables_1_5
  | 6 => tables_1_6
  | 7 => tables_1_7
  | _ => tables_1_8
theorem tb_in (k : Nat) (w : Cond) (h : w ∈ tb k) : w ∈ lw_tbl := by
  unfold lw_tbl
  unfold tables_1
  simp only [List.mem_append]
  unfold tb at h
  split at h <;> simp [h]
def wAt (p : Nat × Nat) : Option Cond := (tb p.1)[p.2]?
theorem wl {α : Type} (ps : List (Nat × Nat)) {qs : List α} {g : α → Cond} (h : ps.map wAt = qs.map (fun q => some (g q))) : ∀ q ∈ qs, g q ∈ lw_tbl := by
  intro q hq
  have h1 : some (g q) ∈ qs.map (fun q => some (g q)) := List.mem_map.mpr ⟨q, hq, rfl⟩
  rw [← h] at h1
  obtain ⟨p, -, hp⟩ := List.mem_map.mp h1
  exact tb_in p.1 _ (List.mem_of_getElem? hp)
def fW (c : Nat) (q : Nat × Nat × Nat × Nat) : Cond := match q.2.2.2 with
  | 0 => .fieldLink (clsN c) q.1 (clO q.2.1).1 ((clO q.2.1).2.1 q.2.2.1).2.1 ((clO q.2.1).2.1 q.2.2.1).2.2.1
  | _ => .fieldLinkNest (clsN c) q.1 (clO q.2.1).1 ((clO q.2.1).2.1 q.2.2.1).2.1 ((clO q.2.1).2.1 q.2.2.1).2.2.1 nHost
def cW (c : Nat) (q : Nat × Nat × Nat) : Cond := match q.2.2 with
  | 0 => .methodLink (clsN c) q.1 (mt q.2.1).1
  | 2 => .methodLink (clsN c) q.1 (mt q.2.1).1
  | 4 => .methodLink (clsN c) q.1 (mt q.2.1).1
  | _ => .methodLinkNest (clsN c) q.1 (mt q.2.1).1 nHost
set_option maxRecDepth 100000 in
theorem fw_0 : ∀ q ∈ flt 0, fW 0 q ∈ lw_tbl := wl [] rfl
set_option maxRecDepth 100000 in
theorem fw_1 : ∀ q ∈ flt 1, fW 1 q ∈ lw_tbl := wl [(2, 90), (2, 91), (2, 93), (2, 94), (2, 96), (2, 97), (2, 98), (2, 99), (2, 100), (2, 95), (1, 109), (1, 118), (1, 124), (1, 106)] rfl
set_option maxRecDepth 100000 in
theorem fw_2 : ∀ q ∈ flt 2, fW 2 q ∈ lw_tbl := wl [(1, 51), (1, 53), (1, 55), (1, 57), (1, 58), (1, 49), (1, 112), (1, 120)] rfl
set_option maxRecDepth 100000 in
theorem fw_3 : ∀ q ∈ flt 3, fW 3 q ∈ lw_tbl := wl [(2, 145), (2, 146), (2, 147), (2, 148), (1, 181), (2, 151), (2, 150), (2, 152), (2, 154), (2, 155), (2, 157), (1, 111), (1, 119), (2, 65), (2, 62)] rfl
set_option maxRecDepth 100000 in
theorem fw_4 : ∀ q ∈ flt 4, fW 4 q ∈ lw_tbl := wl [(2, 55), (2, 57), (1, 108), (1, 116), (1, 179), (2, 58), (1, 189), (2, 59), (2, 61), (2, 64)] rfl
set_option maxRecDepth 100000 in
theorem fw_5 : ∀ q ∈ flt 5, fW 5 q ∈ lw_tbl := wl [(2, 128), (2, 129)] rfl
set_option maxRecDepth 100000 in
theorem fw_6 : ∀ q ∈ flt 6, fW 6 q ∈ lw_tbl := wl [(2, 29), (2, 32), (2, 36), (2, 30), (2, 4), (2, 6), (2, 8), (2, 34)] rfl
set_option maxRecDepth 100000 in
theorem fw_7 : ∀ q ∈ flt 7, fW 7 q ∈ lw_tbl := wl [(1, 145), (1, 146), (1, 147), (1, 148), (1, 150), (1, 151), (1, 152), (1, 143), (1, 149), (1, 153)] rfl
set_option maxRecDepth 100000 in
theorem fw_8 : ∀ q ∈ flt 8, fW 8 q ∈ lw_tbl := wl [(2, 186), (2, 188), (2, 190), (2, 192), (2, 193), (1, 110), (1, 117), (2, 56)] rfl
set_option maxRecDepth 100000 in
theorem fw_9 : ∀ q ∈ flt 9, fW 9 q ∈ lw_tbl := wl [(1, 239), (2, 0), (2, 1), (2, 2), (2, 3), (2, 5), (2, 7), (2, 9)] rfl
set_option maxRecDepth 100000 in
theorem fw_10 : ∀ q ∈ flt 10, fW 10 q ∈ lw_tbl := wl [(1, 115), (1, 123), (1, 126), (1, 105), (1, 107)] rfl
set_option maxRecDepth 100000 in
theorem fw_11 : ∀ q ∈ flt 11, fW 11 q ∈ lw_tbl := wl [(1, 188), (1, 191), (1, 193), (1, 195), (1, 197), (1, 199), (1, 200), (1, 176), (1, 178), (1, 182), (1, 184), (1, 186), (1, 113), (1, 121)] rfl
set_option maxRecDepth 100000 in
theorem fw_12 : ∀ q ∈ flt 12, fW 12 q ∈ lw_tbl := wl [(2, 207), (2, 208), (2, 210), (2, 212), (2, 213), (2, 214), (2, 215), (2, 216), (2, 217), (2, 218), (1, 177), (2, 211), (1, 194), (2, 35), (1, 198), (2, 37), (1, 144), (2, 31), (2, 33), (1, 180), (1, 183), (1, 190), (1, 192), (1, 196), (1, 114), (1, 122), (2, 60), (2, 63), (2, 66), (2, 92), (1, 185), (1, 187), (1, 201), (1, 50), (1, 52), (1, 54), (1, 56), (2, 149), (2, 153), (2, 156), (2, 158), (2, 191), (2, 189), (2, 187), (1, 125), (2, 209)] rfl
set_option maxRecDepth 100000 in
theorem fw_13 : ∀ q ∈ flt 13, fW 13 q ∈ lw_tbl := wl [(6, 20), (6, 21), (6, 23), (6, 24), (6, 25), (6, 26), (6, 27), (6, 28), (6, 41), (6, 42), (6, 43), (6, 44), (6, 45), (6, 48), (6, 49), (6, 50), (6, 51), (6, 54), (6, 55), (6, 56), (6, 61), (6, 63), (6, 64), (6, 65), (6, 32), (6, 33), (6, 35), (6, 34), (6, 29), (6, 36), (6, 37), (6, 38), (6, 31), (6, 40), (6, 30), (6, 39), (6, 46), (6, 47), (6, 52), (6, 53), (6, 59), (6, 58), (6, 57), (6, 60), (6, 62), (6, 22)] rfl
set_option maxRecDepth 100000 in
theorem fw_14 : ∀ q ∈ flt 14, fW 14 q ∈ lw_tbl := wl [] rfl
set_option maxRecDepth 100000 in
theorem fw_15 : ∀ q ∈ flt 15, fW 15 q ∈ lw_tbl := wl [] rfl
set_option maxRecDepth 100000 in
theorem fw_16 : ∀ q ∈ flt 16, fW 16 q ∈ lw_tbl := wl [] rfl
set_option maxRecDepth 100000 in
theorem fw_17 : ∀ q ∈ flt 17, fW 17 q ∈ lw_tbl := wl [] rfl
set_option maxRecDepth 100000 in
theorem fw_18 : ∀ q ∈ flt 18, fW 18 q ∈ lw_tbl := wl [] rfl
theorem fw_all : ∀ c, c < 19 → ∀ q ∈ flt c, fW c q ∈ lw_tbl
  | 0, _ => fw_0
  | 1, _ => fw_1
  | 2, _ => fw_2
  | 3, _ => fw_3
  | 4, _ => fw_4
  | 5, _ => fw_5
  | 6, _ => fw_6
  | 7, _ => fw_7
  | 8, _ => fw_8
  | 9, _ => fw_9
  | 10, _ => fw_10
  | 11, _ => fw_11
  | 12, _ => fw_12
  | 13, _ => fw_13
  | 14, _ => fw_14
  | 15, _ => fw_15
  | 16, _ => fw_16
  | 17, _ => fw_17
  | 18, _ => fw_18
  | k + 19, h => absurd h (by omega)
set_option maxRecDepth 100000 in
theorem cw_0 : ∀ q ∈ clt 0, cW 0 q ∈ lw_tbl := wl [(4, 28), (4, 36), (5, 206), (5, 179), (5, 184), (1, 99)] rfl
set_option maxRecDepth 100000 in
theorem cw_1 : ∀ q ∈ clt 1, cW 1 q ∈ lw_tbl := wl [(4, 172), (2, 87), (4, 173), (4, 139), (4, 143), (4, 146), (4, 147), (4, 152), (4, 179), (4, 180), (4, 188), (4, 192), (4, 196), (4, 200), (4, 208), (2, 89), (4, 125), (4, 130), (4, 131), (4, 135), (4, 156), (4, 175), (4, 204), (4, 160), (4, 155), (4, 165), (4, 168)] rfl
set_option maxRecDepth 100000 in
theorem cw_2 : ∀ q ∈ clt 2, cW 2 q ∈ lw_tbl := wl [(5, 19), (5, 25), (5, 26), (5, 27), (5, 28), (5, 54), (5, 233)] rfl
set_option maxRecDepth 100000 in
theorem cw_3 : ∀ q ∈ clt 3, cW 3 q ∈ lw_tbl := wl [(2, 142), (2, 144), (5, 132), (5, 133), (5, 134), (5, 135), (5, 139), (5, 143)] rfl
set_option maxRecDepth 100000 in
theorem cw_4 : ∀ q ∈ clt 4, cW 4 q ∈ lw_tbl := wl [(4, 88), (4, 89), (4, 90), (4, 95), (4, 101), (4, 184)] rfl
set_option maxRecDepth 100000 in
theorem cw_5 : ∀ q ∈ clt 5, cW 5 q ∈ lw_tbl := wl [(5, 93), (5, 116), (5, 96), (5, 100), (5, 105), (5, 120), (5, 108)] rfl
set_option maxRecDepth 100000 in
theorem cw_6 : ∀ q ∈ clt 6, cW 6 q ∈ lw_tbl := wl [(3, 221), (3, 229), (3, 225), (1, 235), (3, 233), (3, 237), (2, 28), (3, 176), (3, 180), (3, 35), (3, 172), (3, 181), (3, 185), (3, 189), (3, 194), (3, 195), (3, 204), (3, 208), (3, 212), (3, 213), (3, 217), (4, 1)] rfl
set_option maxRecDepth 100000 in
theorem cw_7 : ∀ q ∈ clt 7, cW 7 q ∈ lw_tbl := wl [(4, 239), (4, 231), (4, 235), (5, 0), (5, 4)] rfl
set_option maxRecDepth 100000 in
theorem cw_8 : ∀ q ∈ clt 8, cW 8 q ∈ lw_tbl := wl [(5, 154), (5, 155), (5, 165), (5, 167), (5, 159), (5, 160), (5, 166), (5, 164)] rfl
set_option maxRecDepth 100000 in
theorem cw_9 : ∀ q ∈ clt 9, cW 9 q ∈ lw_tbl := wl [(3, 39), (3, 42), (3, 51), (3, 103), (3, 45), (3, 107), (3, 168)] rfl
set_option maxRecDepth 100000 in
theorem cw_10 : ∀ q ∈ clt 10, cW 10 q ∈ lw_tbl := wl [(1, 79), (1, 83), (1, 86), (1, 89), (1, 92), (1, 96), (4, 151), (5, 74)] rfl
set_option maxRecDepth 100000 in
theorem cw_11 : ∀ q ∈ clt 11, cW 11 q ∈ lw_tbl := wl [(5, 33), (5, 34), (5, 35), (5, 40), (1, 45), (1, 75), (1, 139), (1, 175), (6, 3), (6, 4), (6, 5), (5, 39)] rfl
set_option maxRecDepth 100000 in
theorem cw_12 : ∀ q ∈ clt 12, cW 12 q ∈ lw_tbl := wl [(3, 199), (3, 200), (1, 35), (4, 5), (4, 21), (4, 25), (4, 29), (4, 30), (4, 33), (4, 41), (4, 42), (4, 51), (4, 56), (4, 72), (4, 80), (4, 105), (4, 84), (4, 91), (4, 113), (4, 121), (4, 214), (4, 219), (4, 223), (4, 227), (5, 7), (1, 229), (5, 11), (5, 15), (5, 29), (5, 50), (5, 59), (5, 63), (5, 67), (5, 70), (5, 79), (5, 80), (5, 89), (5, 112), (5, 128), (2, 51), (5, 150), (5, 175), (5, 176), (5, 181), (5, 185), (5, 190), (5, 194), (5, 203), (5, 213), (5, 217), (5, 225), (5, 229), (5, 238), (2, 82), (2, 124), (2, 137), (2, 182), (2, 206), (3, 12), (3, 24), (3, 28), (3, 31)] rfl
set_option maxRecDepth 100000 in
theorem cw_13 : ∀ q ∈ clt 13, cW 13 q ∈ lw_tbl := wl [(6, 195), (6, 217), (6, 183), (6, 187), (6, 190), (6, 204), (6, 228), (6, 235), (6, 179), (7, 39), (7, 31), (7, 43), (6, 239), (7, 19), (7, 23), (7, 27), (7, 15), (7, 7), (7, 35), (7, 3), (6, 231), (7, 11), (7, 47), (7, 51), (8, 0), (7, 81), (7, 70), (7, 63), (7, 66), (7, 84), (7, 103), (7, 92), (7, 96), (7, 99), (7, 123), (7, 143), (7, 139), (7, 147), (7, 119), (7, 131), (7, 135), (7, 150), (7, 158), (7, 182), (7, 190), (7, 178), (7, 212), (7, 208), (7, 200), (7, 166), (7, 174), (7, 186), (7, 194), (7, 204), (7, 170), (7, 216), (7, 232), (7, 236), (7, 228), (8, 3), (7, 224), (8, 11), (8, 19), (8, 23), (8, 27), (8, 51), (8, 47), (8, 43), (8, 39), (8, 59), (8, 75), (8, 71), (8, 67), (8, 95), (6, 172)] rfl
set_option maxRecDepth 100000 in
theorem cw_14 : ∀ q ∈ clt 14, cW 14 q ∈ lw_tbl := wl [] rfl
set_option maxRecDepth 100000 in
theorem cw_15 : ∀ q ∈ clt 15, cW 15 q ∈ lw_tbl := wl [] rfl
set_option maxRecDepth 100000 in
theorem cw_16 : ∀ q ∈ clt 16, cW 16 q ∈ lw_tbl := wl [] rfl
set_option maxRecDepth 100000 in
theorem cw_17 : ∀ q ∈ clt 17, cW 17 q ∈ lw_tbl := wl [(5, 22)] rfl
set_option maxRecDepth 100000 in
theorem cw_18 : ∀ q ∈ clt 18, cW 18 q ∈ lw_tbl := wl [(5, 124), (8, 55), (5, 146), (8, 63), (5, 171), (8, 79), (5, 186), (8, 83), (5, 198), (8, 87), (6, 16), (5, 209), (8, 91), (5, 221), (8, 99), (5, 234), (3, 4), (8, 103), (6, 10), (8, 107), (6, 160), (3, 8), (6, 164), (3, 16), (6, 168), (3, 20), (6, 175), (4, 13), (7, 55), (4, 17), (7, 59), (4, 43), (7, 73), (4, 47), (7, 77), (4, 52), (7, 88), (4, 60), (7, 107), (4, 64), (7, 111), (4, 68), (7, 115), (4, 76), (7, 127), (4, 109), (7, 154), (4, 117), (7, 162), (4, 215), (7, 220), (5, 46), (8, 7), (5, 55), (1, 27), (8, 15), (5, 75), (8, 31), (5, 85), (8, 35)] rfl
theorem cw_all : ∀ c, c < 19 → ∀ q ∈ clt c, cW c q ∈ lw_tbl
  | 0, _ => cw_0
  | 1, _ => cw_1
  | 2, _ => cw_2
  | 3, _ => cw_3
  | 4, _ => cw_4
  | 5, _ => cw_5
  | 6, _ => cw_6
  | 7, _ => cw_7
  | 8, _ => cw_8
  | 9, _ => cw_9
  | 10, _ => cw_10
  | 11, _ => cw_11
  | 12, _ => cw_12
  | 13, _ => cw_13
  | 14, _ => cw_14
  | 15, _ => cw_15
  | 16, _ => cw_16
  | 17, _ => cw_17
  | 18, _ => cw_18
  | k + 19, h => absurd h (by omega)
