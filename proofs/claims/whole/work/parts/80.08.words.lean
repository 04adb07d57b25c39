/-! ===== the words that the abstract code rests on stand in the tables, by their places (wip/whole/emit_w8.py) ===== -/
def nHost : String := "OldNeighbours"
def tb (k : Nat) : List Cond := match k with
  | 0 => k2_sels lw_privs
  | 1 => tables_1_1
  | 2 => tables_1_2
  | 3 => tables_1_3
  | 4 => tables_1_4
  | 5 => tables_1_5
  | 6 => tables_1_6
  | 7 => tables_1_7
  | _ => tables_1_8
theorem tb_in (k : Nat) (w : Cond) (h : w ∈ tb k) : w ∈ lw_tbl := by
  unfold lw_tbl
  unfold tables_1
  simp only [List.mem_append]
  unfold tb at h
  split at h <;> simp [h]
def wAt (p : Nat × Nat) : Option Cond := (tb p.1)[p.2]?
theorem wl {α : Type} (ps : List (Nat × Nat)) {qs : List α} {g : α → Cond} (h : ps.map wAt = qs.map (fun q => some (g q))) : ∀ q ∈ qs, g q ∈ lw_tbl := by
  intro q hq
  have h1 : some (g q) ∈ qs.map (fun q => some (g q)) := List.mem_map.mpr ⟨q, hq, rfl⟩
  rw [← h] at h1
  obtain ⟨p, -, hp⟩ := List.mem_map.mp h1
  exact tb_in p.1 _ (List.mem_of_getElem? hp)
def fW (c : Nat) (q : Nat × Nat × Nat × Nat) : Cond := match q.2.2.2 with
  | 0 => .fieldLink (clsN c) q.1 (clO q.2.1).1 ((clO q.2.1).2.1 q.2.2.1).2.1 ((clO q.2.1).2.1 q.2.2.1).2.2.1
  | _ => .fieldLinkNest (clsN c) q.1 (clO q.2.1).1 ((clO q.2.1).2.1 q.2.2.1).2.1 ((clO q.2.1).2.1 q.2.2.1).2.2.1 nHost
def cW (c : Nat) (q : Nat × Nat × Nat) : Cond := match q.2.2 with
  | 0 => .methodLink (clsN c) q.1 (mt q.2.1).1
  | 2 => .methodLink (clsN c) q.1 (mt q.2.1).1
  | 4 => .methodLink (clsN c) q.1 (mt q.2.1).1
  | _ => .methodLinkNest (clsN c) q.1 (mt q.2.1).1 nHost
set_option maxRecDepth 100000 in
theorem fw_0 : ∀ q ∈ flt 0, fW 0 q ∈ lw_tbl := wl [] rfl
set_option maxRecDepth 100000 in
theorem fw_1 : ∀ q ∈ flt 1, fW 1 q ∈ lw_tbl := wl [(2, 90), (2, 91), (2, 93), (2, 94), (2, 96), (2, 97), (2, 98), (2, 99), (2, 100), (2, 95), (1, 109), (1, 118), (1, 124), (1, 106)] rfl
set_option maxRecDepth 100000 in
theorem fw_2 : ∀ q ∈ flt 2, fW 2 q ∈ lw_tbl := wl [(1, 51), (1, 53), (1, 55), (1, 57), (1, 58), (1, 49), (1, 112), (1, 119)] rfl
set_option maxRecDepth 100000 in
theorem fw_3 : ∀ q ∈ flt 3, fW 3 q ∈ lw_tbl := wl [(2, 145), (2, 146), (2, 147), (2, 148), (1, 181), (2, 151), (2, 150), (2, 152), (2, 154), (2, 155), (2, 157), (1, 111), (1, 120), (2, 65), (2, 62)] rfl
set_option maxRecDepth 100000 in
theorem fw_4 : ∀ q ∈ flt 4, fW 4 q ∈ lw_tbl := wl [(2, 55), (2, 57), (1, 108), (1, 116), (1, 179), (2, 58), (1, 189), (2, 59), (2, 61), (2, 64)] rfl
set_option maxRecDepth 100000 in
theorem fw_5 : ∀ q ∈ flt 5, fW 5 q ∈ lw_tbl := wl [(2, 128), (2, 129)] rfl
set_option maxRecDepth 100000 in
theorem fw_6 : ∀ q ∈ flt 6, fW 6 q ∈ lw_tbl := wl [(2, 29), (2, 32), (2, 36), (2, 30), (2, 4), (2, 6), (2, 8), (2, 34)] rfl
set_option maxRecDepth 100000 in
theorem fw_7 : ∀ q ∈ flt 7, fW 7 q ∈ lw_tbl := wl [(1, 145), (1, 146), (1, 147), (1, 148), (1, 150), (1, 151), (1, 152), (1, 143), (1, 149), (1, 153)] rfl
set_option maxRecDepth 100000 in
theorem fw_8 : ∀ q ∈ flt 8, fW 8 q ∈ lw_tbl := wl [(2, 186), (2, 188), (2, 190), (2, 192), (2, 193), (1, 110), (1, 117), (2, 56)] rfl
set_option maxRecDepth 100000 in
theorem fw_9 : ∀ q ∈ flt 9, fW 9 q ∈ lw_tbl := wl [(1, 239), (2, 0), (2, 1), (2, 2), (2, 3), (2, 5), (2, 7), (2, 9)] rfl
set_option maxRecDepth 100000 in
theorem fw_10 : ∀ q ∈ flt 10, fW 10 q ∈ lw_tbl := wl [(1, 115), (1, 123), (1, 126), (1, 105), (1, 107)] rfl
set_option maxRecDepth 100000 in
theorem fw_11 : ∀ q ∈ flt 11, fW 11 q ∈ lw_tbl := wl [(1, 188), (1, 191), (1, 193), (1, 195), (1, 197), (1, 199), (1, 200), (1, 176), (1, 178), (1, 182), (1, 184), (1, 186), (1, 113), (1, 121)] rfl
set_option maxRecDepth 100000 in
theorem fw_12 : ∀ q ∈ flt 12, fW 12 q ∈ lw_tbl := wl [(2, 207), (2, 208), (2, 210), (2, 212), (2, 213), (2, 214), (2, 215), (2, 216), (2, 217), (2, 218), (1, 177), (2, 211), (1, 194), (2, 35), (1, 198), (2, 37), (1, 144), (2, 31), (2, 33), (1, 180), (1, 183), (1, 190), (1, 192), (1, 196), (1, 114), (1, 122), (2, 60), (2, 63), (2, 66), (2, 92), (1, 185), (1, 187), (1, 201), (1, 50), (1, 52), (1, 54), (1, 56), (2, 149), (2, 153), (2, 156), (2, 158), (2, 191), (2, 189), (2, 187), (1, 125), (2, 209)] rfl
set_option maxRecDepth 100000 in
theorem fw_13 : ∀ q ∈ flt 13, fW 13 q ∈ lw_tbl := wl [(6, 33), (6, 34), (6, 36), (6, 37), (6, 38), (6, 39), (6, 40), (6, 41), (6, 54), (6, 55), (6, 56), (6, 57), (6, 58), (6, 61), (6, 62), (6, 63), (6, 64), (6, 67), (6, 68), (6, 69), (6, 74), (6, 76), (6, 77), (6, 78), (6, 45), (6, 46), (6, 48), (6, 47), (6, 42), (6, 49), (6, 50), (6, 51), (6, 44), (6, 53), (6, 43), (6, 52), (6, 59), (6, 60), (6, 65), (6, 66), (6, 72), (6, 71), (6, 70), (6, 73), (6, 75), (6, 35)] rfl
set_option maxRecDepth 100000 in
theorem fw_14 : ∀ q ∈ flt 14, fW 14 q ∈ lw_tbl := wl [] rfl
set_option maxRecDepth 100000 in
theorem fw_15 : ∀ q ∈ flt 15, fW 15 q ∈ lw_tbl := wl [] rfl
set_option maxRecDepth 100000 in
theorem fw_16 : ∀ q ∈ flt 16, fW 16 q ∈ lw_tbl := wl [] rfl
set_option maxRecDepth 100000 in
theorem fw_17 : ∀ q ∈ flt 17, fW 17 q ∈ lw_tbl := wl [] rfl
set_option maxRecDepth 100000 in
theorem fw_18 : ∀ q ∈ flt 18, fW 18 q ∈ lw_tbl := wl [] rfl
theorem fw_all : ∀ c, c < 19 → ∀ q ∈ flt c, fW c q ∈ lw_tbl
  | 0, _ => fw_0
  | 1, _ => fw_1
  | 2, _ => fw_2
  | 3, _ => fw_3
  | 4, _ => fw_4
  | 5, _ => fw_5
  | 6, _ => fw_6
  | 7, _ => fw_7
  | 8, _ => fw_8
  | 9, _ => fw_9
  | 10, _ => fw_10
  | 11, _ => fw_11
  | 12, _ => fw_12
  | 13, _ => fw_13
  | 14, _ => fw_14
  | 15, _ => fw_15
  | 16, _ => fw_16
  | 17, _ => fw_17
  | 18, _ => fw_18
  | k + 19, h => absurd h (by omega)
set_option maxRecDepth 100000 in
theorem cw_0 : ∀ q ∈ clt 0, cW 0 q ∈ lw_tbl := wl [(4, 32), (4, 40), (5, 219), (5, 192), (5, 197), (1, 99)] rfl
set_option maxRecDepth 100000 in
theorem cw_1 : ∀ q ∈ clt 1, cW 1 q ∈ lw_tbl := wl [(4, 176), (2, 87), (4, 177), (4, 143), (4, 147), (4, 150), (4, 151), (4, 156), (4, 183), (4, 184), (4, 192), (4, 196), (4, 200), (4, 204), (4, 212), (2, 89), (4, 129), (4, 134), (4, 135), (4, 139), (4, 160), (4, 179), (4, 208), (4, 164), (4, 159), (4, 169), (4, 172)] rfl
set_option maxRecDepth 100000 in
theorem cw_2 : ∀ q ∈ clt 2, cW 2 q ∈ lw_tbl := wl [(5, 23), (5, 29), (5, 30), (5, 31), (5, 32), (5, 58), (6, 6)] rfl
set_option maxRecDepth 100000 in
theorem cw_3 : ∀ q ∈ clt 3, cW 3 q ∈ lw_tbl := wl [(2, 142), (2, 144), (5, 141), (5, 142), (5, 143), (5, 144), (5, 148), (5, 152), (5, 156)] rfl
set_option maxRecDepth 100000 in
theorem cw_4 : ∀ q ∈ clt 4, cW 4 q ∈ lw_tbl := wl [(4, 92), (4, 93), (4, 94), (4, 99), (4, 105), (4, 188)] rfl
set_option maxRecDepth 100000 in
theorem cw_5 : ∀ q ∈ clt 5, cW 5 q ∈ lw_tbl := wl [(5, 97), (5, 125), (5, 100), (5, 105), (5, 110), (5, 129), (5, 117), (5, 104), (5, 111)] rfl
set_option maxRecDepth 100000 in
theorem cw_6 : ∀ q ∈ clt 6, cW 6 q ∈ lw_tbl := wl [(3, 221), (3, 233), (3, 225), (1, 235), (3, 229), (3, 237), (4, 1), (2, 28), (3, 176), (3, 180), (3, 35), (3, 172), (3, 181), (3, 185), (3, 189), (3, 194), (3, 195), (3, 204), (3, 208), (3, 212), (3, 213), (3, 217), (4, 5)] rfl
set_option maxRecDepth 100000 in
theorem cw_7 : ∀ q ∈ clt 7, cW 7 q ∈ lw_tbl := wl [(5, 3), (4, 235), (4, 239), (5, 4), (5, 8)] rfl
set_option maxRecDepth 100000 in
theorem cw_8 : ∀ q ∈ clt 8, cW 8 q ∈ lw_tbl := wl [(5, 167), (5, 168), (5, 178), (5, 180), (5, 172), (5, 173), (5, 179), (5, 177)] rfl
set_option maxRecDepth 100000 in
theorem cw_9 : ∀ q ∈ clt 9, cW 9 q ∈ lw_tbl := wl [(3, 39), (3, 42), (3, 51), (3, 103), (3, 45), (3, 107), (3, 168)] rfl
set_option maxRecDepth 100000 in
theorem cw_10 : ∀ q ∈ clt 10, cW 10 q ∈ lw_tbl := wl [(1, 79), (1, 83), (1, 86), (1, 89), (1, 92), (1, 96), (4, 155), (5, 78)] rfl
set_option maxRecDepth 100000 in
theorem cw_11 : ∀ q ∈ clt 11, cW 11 q ∈ lw_tbl := wl [(5, 37), (5, 38), (5, 39), (5, 44), (1, 45), (1, 75), (1, 139), (1, 175), (6, 16), (6, 17), (6, 18), (5, 43)] rfl
set_option maxRecDepth 100000 in
theorem cw_12 : ∀ q ∈ clt 12, cW 12 q ∈ lw_tbl := wl [(3, 199), (3, 200), (1, 35), (4, 9), (4, 25), (4, 29), (4, 33), (4, 34), (4, 37), (4, 45), (4, 46), (4, 55), (4, 60), (4, 76), (4, 84), (4, 109), (4, 88), (4, 95), (4, 117), (4, 125), (4, 218), (4, 223), (4, 227), (4, 231), (5, 11), (1, 229), (5, 15), (5, 19), (5, 33), (5, 54), (5, 63), (5, 67), (5, 71), (5, 74), (5, 83), (5, 84), (5, 93), (5, 121), (5, 137), (2, 51), (5, 163), (5, 188), (5, 189), (5, 194), (5, 198), (5, 203), (5, 207), (5, 216), (5, 226), (5, 230), (5, 238), (6, 2), (6, 11), (2, 82), (2, 124), (2, 137), (2, 182), (2, 206), (3, 12), (3, 24), (3, 28), (3, 31)] rfl
set_option maxRecDepth 100000 in
theorem cw_13 : ∀ q ∈ clt 13, cW 13 q ∈ lw_tbl := wl [(6, 208), (6, 230), (6, 196), (6, 200), (6, 203), (6, 217), (7, 1), (7, 8), (6, 192), (7, 52), (7, 44), (7, 56), (7, 12), (7, 32), (7, 36), (7, 40), (7, 28), (7, 20), (7, 48), (7, 16), (7, 4), (7, 24), (7, 60), (7, 64), (8, 13), (7, 94), (7, 83), (7, 76), (7, 79), (7, 97), (7, 116), (7, 105), (7, 109), (7, 112), (7, 136), (7, 156), (7, 152), (7, 160), (7, 132), (7, 144), (7, 148), (7, 163), (7, 171), (7, 195), (7, 203), (7, 191), (7, 225), (7, 221), (7, 213), (7, 179), (7, 187), (7, 199), (7, 207), (7, 217), (7, 183), (7, 229), (8, 5), (8, 9), (8, 1), (8, 16), (7, 237), (8, 24), (8, 32), (8, 36), (8, 40), (8, 64), (8, 60), (8, 56), (8, 52), (8, 72), (8, 88), (8, 84), (8, 80), (8, 108), (6, 185)] rfl
set_option maxRecDepth 100000 in
theorem cw_14 : ∀ q ∈ clt 14, cW 14 q ∈ lw_tbl := wl [] rfl
set_option maxRecDepth 100000 in
theorem cw_15 : ∀ q ∈ clt 15, cW 15 q ∈ lw_tbl := wl [] rfl
set_option maxRecDepth 100000 in
theorem cw_16 : ∀ q ∈ clt 16, cW 16 q ∈ lw_tbl := wl [] rfl
set_option maxRecDepth 100000 in
theorem cw_17 : ∀ q ∈ clt 17, cW 17 q ∈ lw_tbl := wl [(5, 26)] rfl
set_option maxRecDepth 100000 in
theorem cw_18 : ∀ q ∈ clt 18, cW 18 q ∈ lw_tbl := wl [(5, 133), (8, 68), (5, 159), (8, 76), (5, 184), (8, 92), (5, 199), (8, 96), (5, 211), (8, 100), (6, 29), (5, 222), (8, 104), (5, 234), (8, 112), (6, 7), (3, 4), (8, 116), (6, 23), (8, 120), (6, 173), (3, 8), (6, 177), (3, 16), (6, 181), (3, 20), (6, 188), (4, 17), (7, 68), (4, 21), (7, 72), (4, 47), (7, 86), (4, 51), (7, 90), (4, 56), (7, 101), (4, 64), (7, 120), (4, 68), (7, 124), (4, 72), (7, 128), (4, 80), (7, 140), (4, 113), (7, 167), (4, 121), (7, 175), (4, 219), (7, 233), (5, 50), (8, 20), (5, 59), (1, 27), (8, 28), (5, 79), (8, 44), (5, 89), (8, 48)] rfl
theorem cw_all : ∀ c, c < 19 → ∀ q ∈ clt c, cW c q ∈ lw_tbl
  | 0, _ => cw_0
  | 1, _ => cw_1
  | 2, _ => cw_2
  | 3, _ => cw_3
  | 4, _ => cw_4
  | 5, _ => cw_5
  | 6, _ => cw_6
  | 7, _ => cw_7
  | 8, _ => cw_8
  | 9, _ => cw_9
  | 10, _ => cw_10
  | 11, _ => cw_11
  | 12, _ => cw_12
  | 13, _ => cw_13
  | 14, _ => cw_14
  | 15, _ => cw_15
  | 16, _ => cw_16
  | 17, _ => cw_17
  | 18, _ => cw_18
  | k + 19, h => absurd h (by omega)
