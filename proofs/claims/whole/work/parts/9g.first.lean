/-! the first world: what the two hold when they have been made -/
def w0r : List (Nat → Int32) := ((fun k => ([0, 0, 3, 0, 0] : List Int32).getD k 0) :: (upd (upd (upd (upd (upd (upd (fun _ => 0) 0 3) 1 3) 2 3) 3 3) 4 3) 5 3) :: (fun _ => 0) :: (fun k => ([0, 0, 3, 0, 0] : List Int32).getD k 0) :: (fun _ => 0) :: (fun _ => 0) :: (fun k => ([0, 0, 3, 0, 0] : List Int32).getD k 0) :: (fun _ => 0) :: (fun _ => 0) :: (fun k => ([0, 0, 3, 0, 0] : List Int32).getD k 0) :: (fun _ => 0) :: (fun _ => 0) :: (fun k => ([0, 0, 3, 0, 0] : List Int32).getD k 0) :: (fun _ => 0) :: (fun _ => 0) :: (fun k => ([0, 0, 3, 0, 0] : List Int32).getD k 0) :: (fun _ => 0) :: (fun _ => 0) :: (fun k => ([0, 0, 3, 0, 0] : List Int32).getD k 0) :: (fun _ => 0) :: (fun _ => 0) :: (fun k => ([0, 0, 3, 0, 0] : List Int32).getD k 0) :: (fun _ => 0) :: (fun _ => 0) :: (fun k => ([0, 0, 3, 0, 0] : List Int32).getD k 0) :: (fun _ => 0) :: (fun _ => 0) :: (fun k => ([0, 0, 3, 0, 0] : List Int32).getD k 0) :: (fun _ => 0) :: (fun _ => 0) :: (fun k => ([0, 0, 3, 0, 0] : List Int32).getD k 0) :: (fun _ => 0) :: (fun _ => 0) :: (fun k => ([0, 0, 3, 0, 0] : List Int32).getD k 0) :: (fun _ => 0) :: (fun _ => 0) :: (fun k => ([0, 0, 3, 0, 0] : List Int32).getD k 0) :: (fun _ => 0) :: (fun _ => 0) :: (fun k => ([0, 0, 3, 0, 0] : List Int32).getD k 0) :: (fun _ => 0) :: (fun _ => 0) :: (fun k => ([0, 0, 3, 0, 0] : List Int32).getD k 0) :: (fun _ => 0) :: (fun _ => 0) :: (fun k => ([0, 0, 3, 0, 0] : List Int32).getD k 0) :: (fun _ => 0) :: (fun _ => 0) :: (fun k => ([0, 0, 3, 0, 0] : List Int32).getD k 0) :: (fun _ => 0) :: (fun _ => 0) :: (fun k => ([0, 0, 3, 0, 0] : List Int32).getD k 0) :: (fun _ => 0) :: (fun _ => 0) :: (fun k => ([0, 0, 3, 0, 0] : List Int32).getD k 0) :: (fun _ => 0) :: (fun _ => 0) :: (fun k => ([0, 0, 3, 0, 0] : List Int32).getD k 0) :: (fun _ => 0) :: (fun _ => 0) :: (fun k => ([0, 0, 3, 0, 0] : List Int32).getD k 0) :: (fun _ => 0) :: (fun _ => 0) :: (fun k => ([0, 0, 3, 0, 0] : List Int32).getD k 0) :: (fun _ => 0) :: (fun _ => 0) :: (fun k => ([0, 0, 3, 0, 0] : List Int32).getD k 0) :: (fun _ => 0) :: (fun _ => 0) :: (fun k => ([0, 0, 3, 0, 0] : List Int32).getD k 0) :: (fun _ => 0) :: (fun _ => 0) :: (fun k => ([0, 0, 3, 0, 0] : List Int32).getD k 0) :: (fun _ => 0) :: (fun _ => 0) :: (fun k => ([0, 0, 0, 0, 0, 0, 0, 0, 0, 0, 0, 0, 0, 0, 0, 0, 0, 0, 21] : List Int32).getD k 0) :: (fun _ => 0) :: (fun _ => 0) :: (fun k => ([0, 0, 0] : List Int32).getD k 0) :: (fun _ => 0) :: (fun k => ([0, 0] : List Int32).getD k 0) :: (fun _ => 0) :: (fun k => ([0, 0] : List Int32).getD k 0) :: (fun _ => 0) :: (fun k => ([0, 0, 0, 0, 0, 0, 0, 0, 0, 0] : List Int32).getD k 0) :: (fun k => ([0, 0, 0] : List Int32).getD k 0) :: (fun k => ([0, 0, 0, 0, 0, 0, 0, 0, 0, 0] : List Int32).getD k 0) :: (fun k => ([0, 0, 0, 0, 0, 0, 0, 0, 0] : List Int32).getD k 0) :: (fun _ => 0) :: (fun _ => 0) :: (fun _ => 0) :: (fun _ => 0) :: (fun _ => 0) :: (fun _ => 0) :: (fun _ => 0) :: (fun _ => 0) :: (fun _ => 0) :: (fun k => ([0, 0, 0, 0, 0, 0, 0, 0, 0, 0] : List Int32).getD k 0) :: (fun k => ([0, 0] : List Int32).getD k 0) :: (fun _ => 0) :: (fun k => ([0, 0, 0, 0, 0, 0, 0] : List Int32).getD k 0) :: (fun _ => 0) :: (fun _ => 0) :: (fun k => ([0, 0, 0] : List Int32).getD k 0) :: (fun _ => 0) :: (fun _ => 0) :: (fun k => ([0, 0, 0] : List Int32).getD k 0) :: (fun _ => 0) :: (fun _ => 0) :: (fun k => ([0, 0, 1] : List Int32).getD k 0) :: (upd (fun _ => 0) 0 (-116)) :: (fun _ => 0) :: (fun k => ([0, 0, 12, 0] : List Int32).getD k 0) :: (fun _ => 0) :: (fun _ => 0) :: (fun k => ([0, 0, 10, 0] : List Int32).getD k 0) :: (fun _ => 0) :: (fun _ => 0) :: (fun _ => 0) :: (fun k => ([0, 3, 21, 0, 0, 0, 0, 0, 0, 0, 0, 0, 0, 0, 0, 0, 0, 0, 0, 0, 0, 0, 0, 0, 0, 0, 0, 0, 0, 0, 0, 0, 0, 0, 0, 0, 0, 0, 0, 0, 0, 0, 0, 0, 0, 0, 0, 0, 0, 0, 0, 0, 0, 0, 0] : List Int32).getD k 0) :: (upd (upd (upd (upd (upd (upd (fun _ => 0) 0 3) 1 3) 2 3) 3 3) 4 3) 5 3) :: (fun _ => 0) :: (fun _ => 0) :: (fun _ => 0) :: (fun _ => 0) :: (fun _ => 0) :: (fun _ => 0) :: (fun _ => 0) :: (fun _ => 0) :: (fun _ => 0) :: (fun _ => 0) :: (fun _ => 0) :: (fun _ => 0) :: (fun _ => 0) :: (fun _ => 0) :: (fun _ => 0) :: (fun _ => 0) :: (fun _ => 0) :: (fun _ => 0) :: (fun _ => 0) :: (fun _ => 0) :: (fun _ => 0) :: (fun _ => 0) :: (fun _ => 0) :: (fun _ => 0) :: (fun _ => 0) :: (fun _ => 0) :: (fun _ => 0) :: (fun _ => 0) :: (fun _ => 0) :: (fun _ => 0) :: (fun _ => 0) :: (fun _ => 0) :: (fun _ => 0) :: (fun _ => 0) :: (fun _ => 0) :: (fun _ => 0) :: (fun _ => 0) :: (fun _ => 0) :: (fun _ => 0) :: (fun _ => 0) :: (fun _ => 0) :: [])
def w0 : Wd := (fun i => w0r.getD i (fun _ => 0), fun _ _ => 0, fun k => ([0, 124, 125] : List Nat).getD k 0)
set_option maxRecDepth 100000 in
set_option maxHeartbeats 4000000 in
theorem first_cells {ρ : Nat → Nat} {cs : Nat → ClassId} (g76 g79 g88 g90 g132 g142 : Nat → Option Nat) (e76 : g76 = fun j => if j < 2 then some (ρ (9 + 3 * j)) else none) (e79 : g79 = fun j => if j < 12 then some (ρ (15 + 3 * j)) else none) (e88 : g88 = fun j => if j < 7 then some (ρ (54 + 3 * j)) else none) (e90 : g90 = fun j => if j < 5 then some (ρ (91 + j)) else none) (e132 : g132 = fun j => if j < 7 then some (ρ (133 + j)) else none) (e142 : g142 = fun j => if j < 5 then some (ρ (143 + j)) else none) : ((ρ 0, .inr (5, [.ref (ρ 1), .ref (ρ 2), .int 3, .int 0, .int 0])) :: (ρ 1, .inl (cs 0, 12, .inl (upd (upd (upd (upd (upd (upd (fun _ => 0) 0 3) 1 3) 2 3) 3 3) 4 3) 5 3))) :: (ρ 2, .inl (cs 0, 2, .inl (fun _ => 0))) :: (ρ 3, .inr (5, [.ref (ρ 4), .ref (ρ 5), .int 3, .int 0, .int 0])) :: (ρ 4, .inl (cs 0, 12, .inl (fun _ => 0))) :: (ρ 5, .inl (cs 0, 2, .inl (fun _ => 0))) :: (ρ 6, .inr (5, [.ref (ρ 7), .ref (ρ 8), .int 3, .int 0, .int 0])) :: (ρ 7, .inl (cs 0, 12, .inl (fun _ => 0))) :: (ρ 8, .inl (cs 0, 2, .inl (fun _ => 0))) :: (ρ 9, .inr (5, [.ref (ρ 10), .ref (ρ 11), .int 3, .int 0, .int 0])) :: (ρ 10, .inl (cs 0, 12, .inl (fun _ => 0))) :: (ρ 11, .inl (cs 0, 2, .inl (fun _ => 0))) :: (ρ 12, .inr (5, [.ref (ρ 13), .ref (ρ 14), .int 3, .int 0, .int 0])) :: (ρ 13, .inl (cs 0, 12, .inl (fun _ => 0))) :: (ρ 14, .inl (cs 0, 2, .inl (fun _ => 0))) :: (ρ 15, .inr (5, [.ref (ρ 16), .ref (ρ 17), .int 3, .int 0, .int 0])) :: (ρ 16, .inl (cs 0, 12, .inl (fun _ => 0))) :: (ρ 17, .inl (cs 0, 2, .inl (fun _ => 0))) :: (ρ 18, .inr (5, [.ref (ρ 19), .ref (ρ 20), .int 3, .int 0, .int 0])) :: (ρ 19, .inl (cs 0, 12, .inl (fun _ => 0))) :: (ρ 20, .inl (cs 0, 2, .inl (fun _ => 0))) :: (ρ 21, .inr (5, [.ref (ρ 22), .ref (ρ 23), .int 3, .int 0, .int 0])) :: (ρ 22, .inl (cs 0, 12, .inl (fun _ => 0))) :: (ρ 23, .inl (cs 0, 2, .inl (fun _ => 0))) :: (ρ 24, .inr (5, [.ref (ρ 25), .ref (ρ 26), .int 3, .int 0, .int 0])) :: (ρ 25, .inl (cs 0, 12, .inl (fun _ => 0))) :: (ρ 26, .inl (cs 0, 2, .inl (fun _ => 0))) :: (ρ 27, .inr (5, [.ref (ρ 28), .ref (ρ 29), .int 3, .int 0, .int 0])) :: (ρ 28, .inl (cs 0, 12, .inl (fun _ => 0))) :: (ρ 29, .inl (cs 0, 2, .inl (fun _ => 0))) :: (ρ 30, .inr (5, [.ref (ρ 31), .ref (ρ 32), .int 3, .int 0, .int 0])) :: (ρ 31, .inl (cs 0, 12, .inl (fun _ => 0))) :: (ρ 32, .inl (cs 0, 2, .inl (fun _ => 0))) :: (ρ 33, .inr (5, [.ref (ρ 34), .ref (ρ 35), .int 3, .int 0, .int 0])) :: (ρ 34, .inl (cs 0, 12, .inl (fun _ => 0))) :: (ρ 35, .inl (cs 0, 2, .inl (fun _ => 0))) :: (ρ 36, .inr (5, [.ref (ρ 37), .ref (ρ 38), .int 3, .int 0, .int 0])) :: (ρ 37, .inl (cs 0, 12, .inl (fun _ => 0))) :: (ρ 38, .inl (cs 0, 2, .inl (fun _ => 0))) :: (ρ 39, .inr (5, [.ref (ρ 40), .ref (ρ 41), .int 3, .int 0, .int 0])) :: (ρ 40, .inl (cs 0, 12, .inl (fun _ => 0))) :: (ρ 41, .inl (cs 0, 2, .inl (fun _ => 0))) :: (ρ 42, .inr (5, [.ref (ρ 43), .ref (ρ 44), .int 3, .int 0, .int 0])) :: (ρ 43, .inl (cs 0, 12, .inl (fun _ => 0))) :: (ρ 44, .inl (cs 0, 2, .inl (fun _ => 0))) :: (ρ 45, .inr (5, [.ref (ρ 46), .ref (ρ 47), .int 3, .int 0, .int 0])) :: (ρ 46, .inl (cs 0, 12, .inl (fun _ => 0))) :: (ρ 47, .inl (cs 0, 2, .inl (fun _ => 0))) :: (ρ 48, .inr (5, [.ref (ρ 49), .ref (ρ 50), .int 3, .int 0, .int 0])) :: (ρ 49, .inl (cs 0, 12, .inl (fun _ => 0))) :: (ρ 50, .inl (cs 0, 2, .inl (fun _ => 0))) :: (ρ 51, .inr (5, [.ref (ρ 52), .ref (ρ 53), .int 3, .int 0, .int 0])) :: (ρ 52, .inl (cs 0, 12, .inl (fun _ => 0))) :: (ρ 53, .inl (cs 0, 2, .inl (fun _ => 0))) :: (ρ 54, .inr (5, [.ref (ρ 55), .ref (ρ 56), .int 3, .int 0, .int 0])) :: (ρ 55, .inl (cs 0, 12, .inl (fun _ => 0))) :: (ρ 56, .inl (cs 0, 2, .inl (fun _ => 0))) :: (ρ 57, .inr (5, [.ref (ρ 58), .ref (ρ 59), .int 3, .int 0, .int 0])) :: (ρ 58, .inl (cs 0, 12, .inl (fun _ => 0))) :: (ρ 59, .inl (cs 0, 2, .inl (fun _ => 0))) :: (ρ 60, .inr (5, [.ref (ρ 61), .ref (ρ 62), .int 3, .int 0, .int 0])) :: (ρ 61, .inl (cs 0, 12, .inl (fun _ => 0))) :: (ρ 62, .inl (cs 0, 2, .inl (fun _ => 0))) :: (ρ 63, .inr (5, [.ref (ρ 64), .ref (ρ 65), .int 3, .int 0, .int 0])) :: (ρ 64, .inl (cs 0, 12, .inl (fun _ => 0))) :: (ρ 65, .inl (cs 0, 2, .inl (fun _ => 0))) :: (ρ 66, .inr (5, [.ref (ρ 67), .ref (ρ 68), .int 3, .int 0, .int 0])) :: (ρ 67, .inl (cs 0, 12, .inl (fun _ => 0))) :: (ρ 68, .inl (cs 0, 2, .inl (fun _ => 0))) :: (ρ 69, .inr (5, [.ref (ρ 70), .ref (ρ 71), .int 3, .int 0, .int 0])) :: (ρ 70, .inl (cs 0, 12, .inl (fun _ => 0))) :: (ρ 71, .inl (cs 0, 2, .inl (fun _ => 0))) :: (ρ 72, .inr (5, [.ref (ρ 73), .ref (ρ 74), .int 3, .int 0, .int 0])) :: (ρ 73, .inl (cs 0, 12, .inl (fun _ => 0))) :: (ρ 74, .inl (cs 0, 2, .inl (fun _ => 0))) :: (ρ 75, .inr (11, [.ref (ρ 0), .ref (ρ 3), .ref (ρ 6), .ref (ρ 76), .ref (ρ 77), .ref (ρ 78), .ref (ρ 80), .ref (ρ 82), .ref (ρ 84), .ref (ρ 85), .ref (ρ 87), .ref (ρ 98), .ref (ρ 100), .ref (ρ 106), .ref (ρ 109), .ref (ρ 112), .ref (ρ 115), .ref (ρ 118), .int 21])) :: (ρ 76, .inl (cs 4, 2, .inr (.inr (.inr (.inr (g76)))))) :: (ρ 77, .inl (cs 2, 2, .inl (fun _ => 0))) :: (ρ 78, .inr (0, [.ref (ρ 79), .int 0, .int 0])) :: (ρ 79, .inl (cs 4, 12, .inr (.inr (.inr (.inr (g79)))))) :: (ρ 80, .inr (9, [.ref (ρ 81), .int 0])) :: (ρ 81, .inl (cs 0, 80, .inl (fun _ => 0))) :: (ρ 82, .inr (3, [.ref (ρ 83), .int 0])) :: (ρ 83, .inl (cs 3, 20, .inr (.inl (fun _ => 0)))) :: (ρ 84, .inr (1, [.int 0, .int 0, .int 0, .int 0, .int 0, .int 0, .int 0, .int 0, .int 0, .int 0])) :: (ρ 85, .inr (4, [.ref (ρ 51), .ref (ρ 86), .int 0])) :: (ρ 86, .inr (1, [.int 0, .int 0, .int 0, .int 0, .int 0, .int 0, .int 0, .int 0, .int 0, .int 0])) :: (ρ 87, .inr (10, [.ref (ρ 88), .ref (ρ 89), .ref (ρ 90), .ref (ρ 96), .ref (ρ 97), .int 0, .int 0, .int 0, .int 0])) :: (ρ 88, .inl (cs 4, 7, .inr (.inr (.inr (.inr (g88)))))) :: (ρ 89, .inl (cs 0, 6, .inl (fun _ => 0))) :: (ρ 90, .inl (cs 5, 5, .inr (.inr (.inr (.inr (g90)))))) :: (ρ 91, .inl (cs 0, 4, .inl (fun _ => 0))) :: (ρ 92, .inl (cs 0, 4, .inl (fun _ => 0))) :: (ρ 93, .inl (cs 0, 4, .inl (fun _ => 0))) :: (ρ 94, .inl (cs 0, 4, .inl (fun _ => 0))) :: (ρ 95, .inl (cs 0, 4, .inl (fun _ => 0))) :: (ρ 96, .inl (cs 0, 5, .inl (fun _ => 0))) :: (ρ 97, .inr (1, [.int 0, .int 0, .int 0, .int 0, .int 0, .int 0, .int 0, .int 0, .int 0, .int 0])) :: (ρ 98, .inr (8, [.ref (ρ 99), .int 0])) :: (ρ 99, .inl (cs 0, 3240, .inl (fun _ => 0))) :: (ρ 100, .inr (7, [.ref (ρ 101), .ref (ρ 102), .ref (ρ 103), .int 0, .int 0, .int 0, .int 0])) :: (ρ 101, .inl (cs 0, 40, .inl (fun _ => 0))) :: (ρ 102, .inl (cs 2, 5, .inl (fun _ => 0))) :: (ρ 103, .inr (6, [.ref (ρ 104), .ref (ρ 105), .int 0])) :: (ρ 104, .inl (cs 0, 40, .inl (fun _ => 0))) :: (ρ 105, .inl (cs 0, 40, .inl (fun _ => 0))) :: (ρ 106, .inr (6, [.ref (ρ 107), .ref (ρ 108), .int 0])) :: (ρ 107, .inl (cs 0, 40, .inl (fun _ => 0))) :: (ρ 108, .inl (cs 0, 40, .inl (fun _ => 0))) :: (ρ 109, .inr (6, [.ref (ρ 110), .ref (ρ 111), .int 1])) :: (ρ 110, .inl (cs 0, 40, .inl (upd (fun _ => 0) 0 (-116)))) :: (ρ 111, .inl (cs 0, 40, .inl (fun _ => 0))) :: (ρ 112, .inr (2, [.ref (ρ 113), .ref (ρ 114), .int 12, .int 0])) :: (ρ 113, .inl (cs 0, 12, .inl (fun _ => 0))) :: (ρ 114, .inl (cs 0, 12, .inl (fun _ => 0))) :: (ρ 115, .inr (2, [.ref (ρ 116), .ref (ρ 117), .int 10, .int 0])) :: (ρ 116, .inl (cs 0, 12, .inl (fun _ => 0))) :: (ρ 117, .inl (cs 0, 12, .inl (fun _ => 0))) :: (ρ 118, .inl (cs 0, 21, .inl (fun _ => 0))) :: (ρ 119, .inr (12, [.ref (ρ 120), .int 3, .int 21, .ref (ρ 121), .int 0, .ref (ρ 122), .int 0, .int 0, .null, .int 0, .int 0, .int 0, .int 0, .ref (ρ 123), .ref (ρ 124), .ref (ρ 125), .int 0, .int 0, .ref (ρ 126), .int 0, .int 0, .int 0, .ref (ρ 127), .int 0, .ref (ρ 128), .ref (ρ 129), .ref (ρ 130), .ref (ρ 131), .int 0, .ref (ρ 132), .ref (ρ 140), .ref (ρ 141), .int 0, .int 0, .ref (ρ 142), .ref (ρ 148), .int 0, .ref (ρ 149), .int 0, .ref (ρ 150), .ref (ρ 151), .ref (ρ 152), .ref (ρ 153), .int 0, .ref (ρ 154), .ref (ρ 155), .int 0, .ref (ρ 156), .ref (ρ 157), .int 0, .int 0, .int 0, .ref (ρ 158), .ref (ρ 159), .ref (ρ 160)])) :: (ρ 120, .inl (cs 0, 16, .inl (upd (upd (upd (upd (upd (upd (fun _ => 0) 0 3) 1 3) 2 3) 3 3) 4 3) 5 3))) :: (ρ 121, .inl (cs 1, 80, .inl (fun _ => 0))) :: (ρ 122, .inl (cs 3, 24, .inr (.inl (fun _ => 0)))) :: (ρ 123, .inl (cs 0, 12, .inl (fun _ => 0))) :: (ρ 124, .inl (cs 1, 40, .inl (fun _ => 0))) :: (ρ 125, .inl (cs 1, 40, .inl (fun _ => 0))) :: (ρ 126, .inl (cs 0, 7, .inl (fun _ => 0))) :: (ρ 127, .inl (cs 0, 192, .inl (fun _ => 0))) :: (ρ 128, .inl (cs 0, 16, .inl (fun _ => 0))) :: (ρ 129, .inl (cs 0, 16, .inl (fun _ => 0))) :: (ρ 130, .inl (cs 0, 16, .inl (fun _ => 0))) :: (ρ 131, .inl (cs 0, 81, .inl (fun _ => 0))) :: (ρ 132, .inl (cs 5, 7, .inr (.inr (.inr (.inr (g132)))))) :: (ρ 133, .inl (cs 0, 16, .inl (fun _ => 0))) :: (ρ 134, .inl (cs 0, 16, .inl (fun _ => 0))) :: (ρ 135, .inl (cs 0, 16, .inl (fun _ => 0))) :: (ρ 136, .inl (cs 0, 16, .inl (fun _ => 0))) :: (ρ 137, .inl (cs 0, 16, .inl (fun _ => 0))) :: (ρ 138, .inl (cs 0, 16, .inl (fun _ => 0))) :: (ρ 139, .inl (cs 0, 16, .inl (fun _ => 0))) :: (ρ 140, .inl (cs 0, 7, .inl (fun _ => 0))) :: (ρ 141, .inl (cs 0, 7, .inl (fun _ => 0))) :: (ρ 142, .inl (cs 5, 5, .inr (.inr (.inr (.inr (g142)))))) :: (ρ 143, .inl (cs 0, 5, .inl (fun _ => 0))) :: (ρ 144, .inl (cs 0, 5, .inl (fun _ => 0))) :: (ρ 145, .inl (cs 0, 5, .inl (fun _ => 0))) :: (ρ 146, .inl (cs 0, 5, .inl (fun _ => 0))) :: (ρ 147, .inl (cs 0, 5, .inl (fun _ => 0))) :: (ρ 148, .inl (cs 0, 5, .inl (fun _ => 0))) :: (ρ 149, .inl (cs 0, 3456, .inl (fun _ => 0))) :: (ρ 150, .inl (cs 0, 976, .inl (fun _ => 0))) :: (ρ 151, .inl (cs 0, 24, .inl (fun _ => 0))) :: (ρ 152, .inl (cs 0, 12, .inl (fun _ => 0))) :: (ρ 153, .inl (cs 0, 12, .inl (fun _ => 0))) :: (ρ 154, .inl (cs 0, 10, .inl (fun _ => 0))) :: (ρ 155, .inl (cs 0, 10, .inl (fun _ => 0))) :: (ρ 156, .inl (cs 2, 64, .inl (fun _ => 0))) :: (ρ 157, .inl (cs 0, 51, .inl (fun _ => 0))) :: (ρ 158, .inl (cs 0, 32, .inl (fun _ => 0))) :: (ρ 159, .inl (cs 2, 2, .inl (fun _ => 0))) :: (ρ 160, .inl (cs 0, 2, .inl (fun _ => 0))) :: (ρ 161, .inl (cs 3, 1, .inr (.inl (fun _ => 0)))) :: []) = cells ρ cs w0 := by
  subst e76; subst e79; subst e88; subst e90; subst e132; subst e142
  rfl
set_option maxRecDepth 100000 in
set_option maxHeartbeats 4000000 in
theorem first_perm {ρ : Nat → Nat} {cs : Nat → ClassId} {x91 : Nat} (e91 : ρ 91 = x91) {x92 : Nat} (e92 : ρ 92 = x92) {x93 : Nat} (e93 : ρ 93 = x93) {x94 : Nat} (e94 : ρ 94 = x94) {x95 : Nat} (e95 : ρ 95 = x95) {x133 : Nat} (e133 : ρ 133 = x133) {x134 : Nat} (e134 : ρ 134 = x134) {x135 : Nat} (e135 : ρ 135 = x135) {x136 : Nat} (e136 : ρ 136 = x136) {x137 : Nat} (e137 : ρ 137 = x137) {x138 : Nat} (e138 : ρ 138 = x138) {x139 : Nat} (e139 : ρ 139 = x139) {x143 : Nat} (e143 : ρ 143 = x143) {x144 : Nat} (e144 : ρ 144 = x144) {x145 : Nat} (e145 : ρ 145 = x145) {x146 : Nat} (e146 : ρ 146 = x146) {x147 : Nat} (e147 : ρ 147 = x147) (h91 : ρ 91 = ρ 90 + 1 + 0) (h92 : ρ 92 = ρ 90 + 1 + 1) (h93 : ρ 93 = ρ 90 + 1 + 2) (h94 : ρ 94 = ρ 90 + 1 + 3) (h95 : ρ 95 = ρ 90 + 1 + 4) (h133 : ρ 133 = ρ 132 + 1 + 0) (h134 : ρ 134 = ρ 132 + 1 + 1) (h135 : ρ 135 = ρ 132 + 1 + 2) (h136 : ρ 136 = ρ 132 + 1 + 3) (h137 : ρ 137 = ρ 132 + 1 + 4) (h138 : ρ 138 = ρ 132 + 1 + 5) (h139 : ρ 139 = ρ 132 + 1 + 6) (h143 : ρ 143 = ρ 142 + 1 + 0) (h144 : ρ 144 = ρ 142 + 1 + 1) (h145 : ρ 145 = ρ 142 + 1 + 2) (h146 : ρ 146 = ρ 142 + 1 + 3) (h147 : ρ 147 = ρ 142 + 1 + 4) : (((ρ 119, .inr (12, [.ref (ρ 120), .int 3, .int 21, .ref (ρ 121), .int 0, .ref (ρ 122), .int 0, .int 0, .null, .int 0, .int 0, .int 0, .int 0, .ref (ρ 123), .ref (ρ 124), .ref (ρ 125), .int 0, .int 0, .ref (ρ 126), .int 0, .int 0, .int 0, .ref (ρ 127), .int 0, .ref (ρ 128), .ref (ρ 129), .ref (ρ 130), .ref (ρ 131), .int 0, .ref (ρ 132), .ref (ρ 140), .ref (ρ 141), .int 0, .int 0, .ref (ρ 142), .ref (ρ 148), .int 0, .ref (ρ 149), .int 0, .ref (ρ 150), .ref (ρ 151), .ref (ρ 152), .ref (ρ 153), .int 0, .ref (ρ 154), .ref (ρ 155), .int 0, .ref (ρ 156), .ref (ρ 157), .int 0, .int 0, .int 0, .ref (ρ 158), .ref (ρ 159), .ref (ρ 160)])) :: (ρ 161, .inl (cs 3, 1, .inr (.inl (fun _ => 0)))) :: (ρ 160, .inl (cs 0, 2, .inl (fun _ => 0))) :: (ρ 159, .inl (cs 2, 2, .inl (fun _ => 0))) :: (ρ 158, .inl (cs 0, 32, .inl (fun _ => 0))) :: (ρ 157, .inl (cs 0, 51, .inl (fun _ => 0))) :: (ρ 156, .inl (cs 2, 64, .inl (fun _ => 0))) :: (ρ 155, .inl (cs 0, 10, .inl (fun _ => 0))) :: (ρ 154, .inl (cs 0, 10, .inl (fun _ => 0))) :: (ρ 153, .inl (cs 0, 12, .inl (fun _ => 0))) :: (ρ 152, .inl (cs 0, 12, .inl (fun _ => 0))) :: (ρ 151, .inl (cs 0, 24, .inl (fun _ => 0))) :: (ρ 150, .inl (cs 0, 976, .inl (fun _ => 0))) :: (ρ 149, .inl (cs 0, 3456, .inl (fun _ => 0))) :: (ρ 148, .inl (cs 0, 5, .inl (fun _ => 0))) :: (ρ 142, .inl (cs 5, 5, .inr (.inr (.inr (.inr (fun j => if j < 5 then some ((ρ 142) + 1 + j) else none)))))) :: (x143, .inl (cs 0, 5, .inl (fun _ => 0))) :: (x144, .inl (cs 0, 5, .inl (fun _ => 0))) :: (x145, .inl (cs 0, 5, .inl (fun _ => 0))) :: (x146, .inl (cs 0, 5, .inl (fun _ => 0))) :: (x147, .inl (cs 0, 5, .inl (fun _ => 0))) :: (ρ 141, .inl (cs 0, 7, .inl (fun _ => 0))) :: (ρ 140, .inl (cs 0, 7, .inl (fun _ => 0))) :: (ρ 132, .inl (cs 5, 7, .inr (.inr (.inr (.inr (fun j => if j < 7 then some ((ρ 132) + 1 + j) else none)))))) :: (x133, .inl (cs 0, 16, .inl (fun _ => 0))) :: (x134, .inl (cs 0, 16, .inl (fun _ => 0))) :: (x135, .inl (cs 0, 16, .inl (fun _ => 0))) :: (x136, .inl (cs 0, 16, .inl (fun _ => 0))) :: (x137, .inl (cs 0, 16, .inl (fun _ => 0))) :: (x138, .inl (cs 0, 16, .inl (fun _ => 0))) :: (x139, .inl (cs 0, 16, .inl (fun _ => 0))) :: (ρ 131, .inl (cs 0, 81, .inl (fun _ => 0))) :: (ρ 130, .inl (cs 0, 16, .inl (fun _ => 0))) :: (ρ 129, .inl (cs 0, 16, .inl (fun _ => 0))) :: (ρ 128, .inl (cs 0, 16, .inl (fun _ => 0))) :: (ρ 127, .inl (cs 0, 192, .inl (fun _ => 0))) :: (ρ 126, .inl (cs 0, 7, .inl (fun _ => 0))) :: (ρ 125, .inl (cs 1, 40, .inl (fun _ => 0))) :: (ρ 124, .inl (cs 1, 40, .inl (fun _ => 0))) :: (ρ 123, .inl (cs 0, 12, .inl (fun _ => 0))) :: (ρ 122, .inl (cs 3, 24, .inr (.inl (fun _ => 0)))) :: (ρ 121, .inl (cs 1, 80, .inl (fun _ => 0))) :: (ρ 120, .inl (cs 0, 16, .inl (upd (upd (upd (upd (upd (upd (fun _ => 0) 0 3) 1 3) 2 3) 3 3) 4 3) 5 3))) :: (ρ 109, .inr (6, [.ref (ρ 110), .ref (ρ 111), .int 1])) :: (ρ 110, .inl (cs 0, 40, .inl (upd (fun _ => 0) 0 (-116)))) :: (ρ 75, .inr (11, [.ref (ρ 0), .ref (ρ 3), .ref (ρ 6), .ref (ρ 76), .ref (ρ 77), .ref (ρ 78), .ref (ρ 80), .ref (ρ 82), .ref (ρ 84), .ref (ρ 85), .ref (ρ 87), .ref (ρ 98), .ref (ρ 100), .ref (ρ 106), .ref (ρ 109), .ref (ρ 112), .ref (ρ 115), .ref (ρ 118), .int 21])) :: (ρ 12, .inr (5, [.ref (ρ 13), .ref (ρ 14), .int 3, .int 0, .int 0])) :: (ρ 14, .inl (cs 0, 2, .inl (fun _ => 0))) :: (ρ 13, .inl (cs 0, 12, .inl (fun _ => 0))) :: (ρ 9, .inr (5, [.ref (ρ 10), .ref (ρ 11), .int 3, .int 0, .int 0])) :: (ρ 11, .inl (cs 0, 2, .inl (fun _ => 0))) :: (ρ 10, .inl (cs 0, 12, .inl (fun _ => 0))) :: (ρ 118, .inl (cs 0, 21, .inl (fun _ => 0))) :: (ρ 115, .inr (2, [.ref (ρ 116), .ref (ρ 117), .int 10, .int 0])) :: (ρ 117, .inl (cs 0, 12, .inl (fun _ => 0))) :: (ρ 116, .inl (cs 0, 12, .inl (fun _ => 0))) :: (ρ 112, .inr (2, [.ref (ρ 113), .ref (ρ 114), .int 12, .int 0])) :: (ρ 114, .inl (cs 0, 12, .inl (fun _ => 0))) :: (ρ 113, .inl (cs 0, 12, .inl (fun _ => 0))) :: (ρ 111, .inl (cs 0, 40, .inl (fun _ => 0))) :: (ρ 106, .inr (6, [.ref (ρ 107), .ref (ρ 108), .int 0])) :: (ρ 108, .inl (cs 0, 40, .inl (fun _ => 0))) :: (ρ 107, .inl (cs 0, 40, .inl (fun _ => 0))) :: (ρ 100, .inr (7, [.ref (ρ 101), .ref (ρ 102), .ref (ρ 103), .int 0, .int 0, .int 0, .int 0])) :: (ρ 103, .inr (6, [.ref (ρ 104), .ref (ρ 105), .int 0])) :: (ρ 105, .inl (cs 0, 40, .inl (fun _ => 0))) :: (ρ 104, .inl (cs 0, 40, .inl (fun _ => 0))) :: (ρ 102, .inl (cs 2, 5, .inl (fun _ => 0))) :: (ρ 101, .inl (cs 0, 40, .inl (fun _ => 0))) :: (ρ 98, .inr (8, [.ref (ρ 99), .int 0])) :: (ρ 99, .inl (cs 0, 3240, .inl (fun _ => 0))) :: (ρ 87, .inr (10, [.ref (ρ 88), .ref (ρ 89), .ref (ρ 90), .ref (ρ 96), .ref (ρ 97), .int 0, .int 0, .int 0, .int 0])) :: (ρ 72, .inr (5, [.ref (ρ 73), .ref (ρ 74), .int 3, .int 0, .int 0])) :: (ρ 74, .inl (cs 0, 2, .inl (fun _ => 0))) :: (ρ 73, .inl (cs 0, 12, .inl (fun _ => 0))) :: (ρ 69, .inr (5, [.ref (ρ 70), .ref (ρ 71), .int 3, .int 0, .int 0])) :: (ρ 71, .inl (cs 0, 2, .inl (fun _ => 0))) :: (ρ 70, .inl (cs 0, 12, .inl (fun _ => 0))) :: (ρ 66, .inr (5, [.ref (ρ 67), .ref (ρ 68), .int 3, .int 0, .int 0])) :: (ρ 68, .inl (cs 0, 2, .inl (fun _ => 0))) :: (ρ 67, .inl (cs 0, 12, .inl (fun _ => 0))) :: (ρ 63, .inr (5, [.ref (ρ 64), .ref (ρ 65), .int 3, .int 0, .int 0])) :: (ρ 65, .inl (cs 0, 2, .inl (fun _ => 0))) :: (ρ 64, .inl (cs 0, 12, .inl (fun _ => 0))) :: (ρ 60, .inr (5, [.ref (ρ 61), .ref (ρ 62), .int 3, .int 0, .int 0])) :: (ρ 62, .inl (cs 0, 2, .inl (fun _ => 0))) :: (ρ 61, .inl (cs 0, 12, .inl (fun _ => 0))) :: (ρ 57, .inr (5, [.ref (ρ 58), .ref (ρ 59), .int 3, .int 0, .int 0])) :: (ρ 59, .inl (cs 0, 2, .inl (fun _ => 0))) :: (ρ 58, .inl (cs 0, 12, .inl (fun _ => 0))) :: (ρ 54, .inr (5, [.ref (ρ 55), .ref (ρ 56), .int 3, .int 0, .int 0])) :: (ρ 56, .inl (cs 0, 2, .inl (fun _ => 0))) :: (ρ 55, .inl (cs 0, 12, .inl (fun _ => 0))) :: (ρ 97, .inr (1, [.int 0, .int 0, .int 0, .int 0, .int 0, .int 0, .int 0, .int 0, .int 0, .int 0])) :: (ρ 96, .inl (cs 0, 5, .inl (fun _ => 0))) :: (ρ 90, .inl (cs 5, 5, .inr (.inr (.inr (.inr (fun j => if j < 5 then some ((ρ 90) + 1 + j) else none)))))) :: (x91, .inl (cs 0, 4, .inl (fun _ => 0))) :: (x92, .inl (cs 0, 4, .inl (fun _ => 0))) :: (x93, .inl (cs 0, 4, .inl (fun _ => 0))) :: (x94, .inl (cs 0, 4, .inl (fun _ => 0))) :: (x95, .inl (cs 0, 4, .inl (fun _ => 0))) :: (ρ 89, .inl (cs 0, 6, .inl (fun _ => 0))) :: (ρ 88, .inl (cs 4, 7, .inr (.inr (.inr (.inr (va_up (va_up (va_up (va_up (va_up (va_up (va_up (fun _ => none) 0 (some (ρ 54))) 1 (some (ρ 57))) 2 (some (ρ 60))) 3 (some (ρ 63))) 4 (some (ρ 66))) 5 (some (ρ 69))) 6 (some (ρ 72)))))))) :: (ρ 85, .inr (4, [.ref (ρ 51), .ref (ρ 86), .int 0])) :: (ρ 86, .inr (1, [.int 0, .int 0, .int 0, .int 0, .int 0, .int 0, .int 0, .int 0, .int 0, .int 0])) :: (ρ 51, .inr (5, [.ref (ρ 52), .ref (ρ 53), .int 3, .int 0, .int 0])) :: (ρ 53, .inl (cs 0, 2, .inl (fun _ => 0))) :: (ρ 52, .inl (cs 0, 12, .inl (fun _ => 0))) :: (ρ 84, .inr (1, [.int 0, .int 0, .int 0, .int 0, .int 0, .int 0, .int 0, .int 0, .int 0, .int 0])) :: (ρ 82, .inr (3, [.ref (ρ 83), .int 0])) :: (ρ 83, .inl (cs 3, 20, .inr (.inl (fun _ => 0)))) :: (ρ 80, .inr (9, [.ref (ρ 81), .int 0])) :: (ρ 81, .inl (cs 0, 80, .inl (fun _ => 0))) :: (ρ 78, .inr (0, [.ref (ρ 79), .int 0, .int 0])) :: (ρ 48, .inr (5, [.ref (ρ 49), .ref (ρ 50), .int 3, .int 0, .int 0])) :: (ρ 50, .inl (cs 0, 2, .inl (fun _ => 0))) :: (ρ 49, .inl (cs 0, 12, .inl (fun _ => 0))) :: (ρ 45, .inr (5, [.ref (ρ 46), .ref (ρ 47), .int 3, .int 0, .int 0])) :: (ρ 47, .inl (cs 0, 2, .inl (fun _ => 0))) :: (ρ 46, .inl (cs 0, 12, .inl (fun _ => 0))) :: (ρ 42, .inr (5, [.ref (ρ 43), .ref (ρ 44), .int 3, .int 0, .int 0])) :: (ρ 44, .inl (cs 0, 2, .inl (fun _ => 0))) :: (ρ 43, .inl (cs 0, 12, .inl (fun _ => 0))) :: (ρ 39, .inr (5, [.ref (ρ 40), .ref (ρ 41), .int 3, .int 0, .int 0])) :: (ρ 41, .inl (cs 0, 2, .inl (fun _ => 0))) :: (ρ 40, .inl (cs 0, 12, .inl (fun _ => 0))) :: (ρ 36, .inr (5, [.ref (ρ 37), .ref (ρ 38), .int 3, .int 0, .int 0])) :: (ρ 38, .inl (cs 0, 2, .inl (fun _ => 0))) :: (ρ 37, .inl (cs 0, 12, .inl (fun _ => 0))) :: (ρ 33, .inr (5, [.ref (ρ 34), .ref (ρ 35), .int 3, .int 0, .int 0])) :: (ρ 35, .inl (cs 0, 2, .inl (fun _ => 0))) :: (ρ 34, .inl (cs 0, 12, .inl (fun _ => 0))) :: (ρ 30, .inr (5, [.ref (ρ 31), .ref (ρ 32), .int 3, .int 0, .int 0])) :: (ρ 32, .inl (cs 0, 2, .inl (fun _ => 0))) :: (ρ 31, .inl (cs 0, 12, .inl (fun _ => 0))) :: (ρ 27, .inr (5, [.ref (ρ 28), .ref (ρ 29), .int 3, .int 0, .int 0])) :: (ρ 29, .inl (cs 0, 2, .inl (fun _ => 0))) :: (ρ 28, .inl (cs 0, 12, .inl (fun _ => 0))) :: (ρ 24, .inr (5, [.ref (ρ 25), .ref (ρ 26), .int 3, .int 0, .int 0])) :: (ρ 26, .inl (cs 0, 2, .inl (fun _ => 0))) :: (ρ 25, .inl (cs 0, 12, .inl (fun _ => 0))) :: (ρ 21, .inr (5, [.ref (ρ 22), .ref (ρ 23), .int 3, .int 0, .int 0])) :: (ρ 23, .inl (cs 0, 2, .inl (fun _ => 0))) :: (ρ 22, .inl (cs 0, 12, .inl (fun _ => 0))) :: (ρ 18, .inr (5, [.ref (ρ 19), .ref (ρ 20), .int 3, .int 0, .int 0])) :: (ρ 20, .inl (cs 0, 2, .inl (fun _ => 0))) :: (ρ 19, .inl (cs 0, 12, .inl (fun _ => 0))) :: (ρ 15, .inr (5, [.ref (ρ 16), .ref (ρ 17), .int 3, .int 0, .int 0])) :: (ρ 17, .inl (cs 0, 2, .inl (fun _ => 0))) :: (ρ 16, .inl (cs 0, 12, .inl (fun _ => 0))) :: (ρ 79, .inl (cs 4, 12, .inr (.inr (.inr (.inr (va_up (va_up (va_up (va_up (va_up (va_up (va_up (va_up (va_up (va_up (va_up (va_up (fun _ => none) 0 (some (ρ 15))) 1 (some (ρ 18))) 2 (some (ρ 21))) 3 (some (ρ 24))) 4 (some (ρ 27))) 5 (some (ρ 30))) 6 (some (ρ 33))) 7 (some (ρ 36))) 8 (some (ρ 39))) 9 (some (ρ 42))) 10 (some (ρ 45))) 11 (some (ρ 48)))))))) :: (ρ 77, .inl (cs 2, 2, .inl (fun _ => 0))) :: (ρ 76, .inl (cs 4, 2, .inr (.inr (.inr (.inr (va_up (va_up (fun _ => none) 0 (some (ρ 9))) 1 (some (ρ 12)))))))) :: (ρ 6, .inr (5, [.ref (ρ 7), .ref (ρ 8), .int 3, .int 0, .int 0])) :: (ρ 8, .inl (cs 0, 2, .inl (fun _ => 0))) :: (ρ 7, .inl (cs 0, 12, .inl (fun _ => 0))) :: (ρ 3, .inr (5, [.ref (ρ 4), .ref (ρ 5), .int 3, .int 0, .int 0])) :: (ρ 5, .inl (cs 0, 2, .inl (fun _ => 0))) :: (ρ 4, .inl (cs 0, 12, .inl (fun _ => 0))) :: (ρ 0, .inr (5, [.ref (ρ 1), .ref (ρ 2), .int 3, .int 0, .int 0])) :: (ρ 2, .inl (cs 0, 2, .inl (fun _ => 0))) :: (ρ 1, .inl (cs 0, 12, .inl (upd (upd (upd (upd (upd (upd (fun _ => 0) 0 3) 1 3) 2 3) 3 3) 4 3) 5 3))) :: []) : va_W).Perm (cells ρ cs w0) := by
  subst e91; subst e92; subst e93; subst e94; subst e95; subst e133; subst e134; subst e135; subst e136; subst e137; subst e138; subst e139; subst e143; subst e144; subst e145; subst e146; subst e147
  refine (perm_idx [159, 161, 160, 156, 158, 157, 153, 155, 154, 49, 51, 50, 46, 48, 47, 147, 149, 148, 144, 146, 145, 141, 143, 142, 138, 140, 139, 135, 137, 136, 132, 134, 133, 129, 131, 130, 126, 128, 127, 123, 125, 124, 120, 122, 121, 117, 119, 118, 114, 116, 115, 105, 107, 106, 90, 92, 91, 87, 89, 88, 84, 86, 85, 81, 83, 82, 78, 80, 79, 75, 77, 76, 72, 74, 73, 45, 152, 151, 113, 150, 111, 112, 109, 110, 108, 103, 104, 71, 102, 101, 95, 96, 97, 98, 99, 100, 94, 93, 69, 70, 63, 68, 67, 64, 66, 65, 60, 62, 61, 43, 44, 59, 56, 58, 57, 53, 55, 54, 52, 0, 42, 41, 40, 39, 38, 37, 36, 35, 34, 33, 32, 31, 23, 24, 25, 26, 27, 28, 29, 30, 22, 21, 15, 16, 17, 18, 19, 20, 14, 13, 12, 11, 10, 9, 8, 7, 6, 5, 4, 3, 2, 1] 162 rfl (by decide +kernel) rfl).trans (List.Perm.of_eq (first_cells (cs := cs) (ρ := ρ) (va_up (va_up (fun _ => none) 0 (some (ρ 9))) 1 (some (ρ 12))) (va_up (va_up (va_up (va_up (va_up (va_up (va_up (va_up (va_up (va_up (va_up (va_up (fun _ => none) 0 (some (ρ 15))) 1 (some (ρ 18))) 2 (some (ρ 21))) 3 (some (ρ 24))) 4 (some (ρ 27))) 5 (some (ρ 30))) 6 (some (ρ 33))) 7 (some (ρ 36))) 8 (some (ρ 39))) 9 (some (ρ 42))) 10 (some (ρ 45))) 11 (some (ρ 48))) (va_up (va_up (va_up (va_up (va_up (va_up (va_up (fun _ => none) 0 (some (ρ 54))) 1 (some (ρ 57))) 2 (some (ρ 60))) 3 (some (ρ 63))) 4 (some (ρ 66))) 5 (some (ρ 69))) 6 (some (ρ 72))) (fun j => if j < 5 then some ((ρ 90) + 1 + j) else none) (fun j => if j < 7 then some ((ρ 132) + 1 + j) else none) (fun j => if j < 5 then some ((ρ 142) + 1 + j) else none) ?_ ?_ ?_ ?_ ?_ ?_))
  · funext j
    match j with
    | 0 => rfl
    | 1 => rfl
    | k + 2 =>
      have h : ¬ (k + 2 < 2) := by omega
      rw [if_neg h]
      simp [va_up]
  · funext j
    match j with
    | 0 => rfl
    | 1 => rfl
    | 2 => rfl
    | 3 => rfl
    | 4 => rfl
    | 5 => rfl
    | 6 => rfl
    | 7 => rfl
    | 8 => rfl
    | 9 => rfl
    | 10 => rfl
    | 11 => rfl
    | k + 12 =>
      have h : ¬ (k + 12 < 12) := by omega
      rw [if_neg h]
      simp [va_up]
  · funext j
    match j with
    | 0 => rfl
    | 1 => rfl
    | 2 => rfl
    | 3 => rfl
    | 4 => rfl
    | 5 => rfl
    | 6 => rfl
    | k + 7 =>
      have h : ¬ (k + 7 < 7) := by omega
      rw [if_neg h]
      simp [va_up]
  · funext j
    match j with
    | 0 => exact congrArg some h91.symm
    | 1 => exact congrArg some h92.symm
    | 2 => exact congrArg some h93.symm
    | 3 => exact congrArg some h94.symm
    | 4 => exact congrArg some h95.symm
    | k + 5 =>
      have h : ¬ (k + 5 < 5) := by omega
      rw [if_neg h, if_neg h]
  · funext j
    match j with
    | 0 => exact congrArg some h133.symm
    | 1 => exact congrArg some h134.symm
    | 2 => exact congrArg some h135.symm
    | 3 => exact congrArg some h136.symm
    | 4 => exact congrArg some h137.symm
    | 5 => exact congrArg some h138.symm
    | 6 => exact congrArg some h139.symm
    | k + 7 =>
      have h : ¬ (k + 7 < 7) := by omega
      rw [if_neg h, if_neg h]
  · funext j
    match j with
    | 0 => exact congrArg some h143.symm
    | 1 => exact congrArg some h144.symm
    | 2 => exact congrArg some h145.symm
    | 3 => exact congrArg some h146.symm
    | 4 => exact congrArg some h147.symm
    | k + 5 =>
      have h : ¬ (k + 5 < 5) := by omega
      rw [if_neg h, if_neg h]
def P0 : Nat → Nat := fun k => if k < 6 then 3 else 0
def Pz : Nat → Nat := fun _ => 0
theorem oz (P : Nat → Nat) (h14 : P 14 = 0) (h15 : P 15 = 0) : (fun k => ([0, 0, 3, 0, 0] : List Int32).getD k 0) = oP 3 P := by
  funext k
  unfold oP
  rw [h14, h15]
  match k with
  | 0 => rfl
  | 1 => rfl
  | 2 => decide +kernel
  | 3 => decide +kernel
  | 4 => decide +kernel
  | k + 5 =>
    rw [if_neg (by omega), if_neg (by omega), if_neg (by omega)]
    simp
theorem sz : (fun _ => 0) = sP Pz := by
  funext k
  simp [sP, Pz, nI_0]
theorem tz (P : Nat → Nat) (h12 : P 12 = 0) (h13 : P 13 = 0) : (fun _ => 0) = tP P := by
  funext k
  match k with
  | 0 => simp [tP, h12, nI_0]
  | 1 => simp [tP, h13, nI_0]
  | k + 2 =>
    have h : ¬ (k + 2 < 2) := by omega
    simp [tP, h]
theorem ez : (fun _ => 0) = eP Pz := by
  funext k
  simp [eP, Pz, nI_0]
theorem s0 : (upd (upd (upd (upd (upd (upd (fun _ => 0) 0 3) 1 3) 2 3) 3 3) 4 3) 5 3) = sP P0 := by
  funext k
  match k with
  | 0 => decide +kernel
  | 1 => decide +kernel
  | 2 => decide +kernel
  | 3 => decide +kernel
  | 4 => decide +kernel
  | 5 => decide +kernel
  | k + 6 =>
    have h : ¬ (k + 6 < 6) := by omega
    simp [upd, sP, P0, nI_0, h]
theorem e0 : (upd (upd (upd (upd (upd (upd (fun _ => 0) 0 3) 1 3) 2 3) 3 3) 4 3) 5 3) = eP P0 := by
  funext k
  match k with
  | 0 => decide +kernel
  | 1 => decide +kernel
  | 2 => decide +kernel
  | 3 => decide +kernel
  | 4 => decide +kernel
  | 5 => decide +kernel
  | k + 6 =>
    have h : ¬ (k + 6 < 6) := by omega
    simp [upd, eP, P0, nI_0, h]
theorem at0 : isAt w0 0 3 P0 := ⟨oz P0 rfl rfl, s0, tz P0 rfl rfl⟩
theorem posw0 : posC w0 := by
  intro q hq
  obtain ⟨h1, h2⟩ := hq
  have hz : ∃ i, i < 25 ∧ q = 3 * i := ⟨q / 3, by omega, by omega⟩
  obtain ⟨i, hi, rfl⟩ := hz
  match i, hi with
  | 0, _ => exact ⟨3, P0, at0⟩
  | 1, _ => exact ⟨3, Pz, oz Pz rfl rfl, sz, tz Pz rfl rfl⟩
  | 2, _ => exact ⟨3, Pz, oz Pz rfl rfl, sz, tz Pz rfl rfl⟩
  | 3, _ => exact ⟨3, Pz, oz Pz rfl rfl, sz, tz Pz rfl rfl⟩
  | 4, _ => exact ⟨3, Pz, oz Pz rfl rfl, sz, tz Pz rfl rfl⟩
  | 5, _ => exact ⟨3, Pz, oz Pz rfl rfl, sz, tz Pz rfl rfl⟩
  | 6, _ => exact ⟨3, Pz, oz Pz rfl rfl, sz, tz Pz rfl rfl⟩
  | 7, _ => exact ⟨3, Pz, oz Pz rfl rfl, sz, tz Pz rfl rfl⟩
  | 8, _ => exact ⟨3, Pz, oz Pz rfl rfl, sz, tz Pz rfl rfl⟩
  | 9, _ => exact ⟨3, Pz, oz Pz rfl rfl, sz, tz Pz rfl rfl⟩
  | 10, _ => exact ⟨3, Pz, oz Pz rfl rfl, sz, tz Pz rfl rfl⟩
  | 11, _ => exact ⟨3, Pz, oz Pz rfl rfl, sz, tz Pz rfl rfl⟩
  | 12, _ => exact ⟨3, Pz, oz Pz rfl rfl, sz, tz Pz rfl rfl⟩
  | 13, _ => exact ⟨3, Pz, oz Pz rfl rfl, sz, tz Pz rfl rfl⟩
  | 14, _ => exact ⟨3, Pz, oz Pz rfl rfl, sz, tz Pz rfl rfl⟩
  | 15, _ => exact ⟨3, Pz, oz Pz rfl rfl, sz, tz Pz rfl rfl⟩
  | 16, _ => exact ⟨3, Pz, oz Pz rfl rfl, sz, tz Pz rfl rfl⟩
  | 17, _ => exact ⟨3, Pz, oz Pz rfl rfl, sz, tz Pz rfl rfl⟩
  | 18, _ => exact ⟨3, Pz, oz Pz rfl rfl, sz, tz Pz rfl rfl⟩
  | 19, _ => exact ⟨3, Pz, oz Pz rfl rfl, sz, tz Pz rfl rfl⟩
  | 20, _ => exact ⟨3, Pz, oz Pz rfl rfl, sz, tz Pz rfl rfl⟩
  | 21, _ => exact ⟨3, Pz, oz Pz rfl rfl, sz, tz Pz rfl rfl⟩
  | 22, _ => exact ⟨3, Pz, oz Pz rfl rfl, sz, tz Pz rfl rfl⟩
  | 23, _ => exact ⟨3, Pz, oz Pz rfl rfl, sz, tz Pz rfl rfl⟩
  | 24, _ => exact ⟨3, Pz, oz Pz rfl rfl, sz, tz Pz rfl rfl⟩
  | k + 25, hk => exact absurd hk (by omega)
theorem arr0 : arrM w0 := by
  intro a ha
  have hz : a = 128 ∨ a = 129 ∨ a = 130 ∨ a = 133 ∨ a = 134 ∨ a = 135 ∨ a = 136 ∨ a = 137 ∨ a = 138 ∨ a = 139 := by omega
  rcases hz with rfl | rfl | rfl | rfl | rfl | rfl | rfl | rfl | rfl | rfl <;> exact ⟨Pz, ez, fun _ _ => rfl⟩
theorem nil_at {α : Type} {i : Nat} {x : α} {Q : Prop} (h : ([] : List α)[i]? = some x) : Q := by simp at h
set_option maxRecDepth 20000 in
theorem first_rel : Rel 18 w0 := by
  refine ⟨3, 21, P0, [], [], [], [], V0, fun _ => none, [], [], [], ⟨at0, rfl, posw0, ⟨0, by decide, by decide, rfl, rfl, fun _ _ h => nil_at h⟩, ⟨rfl, fun _ _ h => nil_at h⟩, ⟨rfl, fun _ _ h => nil_at h⟩, fun i hi => ⟨?_, fun _ h => (nomatch h)⟩, ⟨rfl, rfl, fun _ _ _ h => nil_at h⟩, ⟨rfl, rfl, fun _ _ _ h => nil_at h⟩, ⟨rfl, fun _ _ h => nil_at h⟩, ⟨rfl, by decide +kernel⟩⟩, ⟨rfl, rfl, ⟨e0, fun k hk => ?_⟩, ⟨rfl, fun _ _ h => nil_at h⟩, ⟨rfl, fun _ _ h => nil_at h⟩, ⟨rfl, fun _ _ h => nil_at h⟩, ⟨0, by decide, rfl, fun i hi => ⟨0, Nat.le_refl _, ?_, Or.inl ?_, ?_, fun _ h => (nomatch h)⟩⟩, ⟨rfl, fun _ _ _ h => nil_at h⟩, ⟨rfl, fun _ _ _ h => nil_at h⟩, ⟨Or.inl ⟨rfl, rfl⟩, rfl, fun _ _ h => nil_at h⟩, arr0⟩, ⟨by decide, by decide, by decide, ⟨by decide, by decide +kernel⟩, ⟨by decide, fun _ h => (nomatch h)⟩, ⟨by decide, fun _ h => (nomatch h)⟩, fun _ _ _ h => (nomatch h), by decide, ⟨by decide, fun _ h => (nomatch h)⟩, by decide, by decide⟩, ⟨fun _ h => (nomatch h), Or.inl ⟨rfl, rfl, rfl⟩⟩, ⟨0, by decide, rfl⟩⟩
  · match i, hi with
    | 0, _ => rfl
    | 1, _ => rfl
  · simp [P0]
    omega
  · match i, hi with
    | 0, _ => rfl
    | 1, _ => rfl
  · match i, hi with
    | 0, _ => rfl
    | 1, _ => rfl
  · constructor
    · intro h
      cases h
    · rintro ⟨h, -⟩
      exact absurd h (by
        match i, hi with
        | 0, _ => decide +kernel
        | 1, _ => decide +kernel)
