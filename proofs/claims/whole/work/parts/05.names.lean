/-! names of the classes, their fields; the fixed world of the class and of the reference (all cells by number) -/
def kR0 : String := "SowingBoards$History"
def kF0 : u_T := fun k => match k with
  | 0 => ("SowingBoards$History", "positions", "[LSowingBoards$Position;", true)
  | 1 => ("SowingBoards$History", "next", "I", false)
  | _ => ("SowingBoards$History", "size", "I", false)
theorem kn0 : ∀ a, a < 3 → ∀ b, b < 3 → a ≠ b → (kF0 a).2.1 ≠ (kF0 b).2.1 := by decide +kernel
theorem ki0 : u_ws kR0 kF0 3 = [227, 229, 231].filterMap (fun i => lw_tbl[i]?) := by decide +kernel
def kR1 : String := "SowingBoards$Move"
def kF1 : u_T := fun k => match k with
  | 0 => ("SowingBoards$Move", "laws", "I", false)
  | 1 => ("SowingBoards$Move", "side", "I", false)
  | 2 => ("SowingBoards$Move", "p", "I", false)
  | 3 => ("SowingBoards$Move", "lifted", "I", false)
  | 4 => ("SowingBoards$Move", "gain", "I", false)
  | 5 => ("SowingBoards$Move", "laps", "I", false)
  | 6 => ("SowingBoards$Move", "place", "I", false)
  | 7 => ("SowingBoards$Move", "stays", "Z", false)
  | 8 => ("SowingBoards$Move", "empty", "I", false)
  | _ => ("SowingBoards$Move", "others", "I", false)
theorem kn1 : ∀ a, a < 10 → ∀ b, b < 10 → a ≠ b → (kF1 a).2.1 ≠ (kF1 b).2.1 := by decide +kernel
theorem ki1 : u_ws kR1 kF1 10 = [293, 295, 297, 299, 301, 303, 305, 307, 309, 311].filterMap (fun i => lw_tbl[i]?) := by decide +kernel
def kR2 : String := "SowingBoards$Notes"
def kF2 : u_T := fun k => match k with
  | 0 => ("SowingBoards$Notes", "first", "[I", true)
  | 1 => ("SowingBoards$Notes", "second", "[I", true)
  | 2 => ("SowingBoards$Notes", "most", "I", true)
  | _ => ("SowingBoards$Notes", "size", "I", false)
theorem kn2 : ∀ a, a < 4 → ∀ b, b < 4 → a ≠ b → (kF2 a).2.1 ≠ (kF2 b).2.1 := by decide +kernel
theorem ki2 : u_ws kR2 kF2 4 = [454, 456, 458, 460].filterMap (fun i => lw_tbl[i]?) := by decide +kernel
def kR3 : String := "SowingBoards$Numbers"
def kF3 : u_T := fun k => match k with
  | 0 => ("SowingBoards$Numbers", "told", "[J", true)
  | _ => ("SowingBoards$Numbers", "size", "I", false)
theorem kn3 : ∀ a, a < 2 → ∀ b, b < 2 → a ≠ b → (kF3 a).2.1 ≠ (kF3 b).2.1 := by decide +kernel
theorem ki3 : u_ws kR3 kF3 2 = [260, 262].filterMap (fun i => lw_tbl[i]?) := by decide +kernel
def kR4 : String := "SowingBoards$Player"
def kF4 : u_T := fun k => match k with
  | 0 => ("SowingBoards$Player", "trial", "LSowingBoards$Position;", true)
  | 1 => ("SowingBoards$Player", "move", "LSowingBoards$Move;", true)
  | _ => ("SowingBoards$Player", "value", "I", false)
theorem kn4 : ∀ a, a < 3 → ∀ b, b < 3 → a ≠ b → (kF4 a).2.1 ≠ (kF4 b).2.1 := by decide +kernel
theorem ki4 : u_ws kR4 kF4 3 = [328, 330, 332].filterMap (fun i => lw_tbl[i]?) := by decide +kernel
def kR5 : String := "SowingBoards$Position"
def kF5 : u_T := fun k => match k with
  | 0 => ("SowingBoards$Position", "seeds", "[I", true)
  | 1 => ("SowingBoards$Position", "stores", "[I", true)
  | 2 => ("SowingBoards$Position", "columns", "I", false)
  | 3 => ("SowingBoards$Position", "turn", "I", false)
  | _ => ("SowingBoards$Position", "made", "I", false)
theorem kn5 : ∀ a, a < 5 → ∀ b, b < 5 → a ≠ b → (kF5 a).2.1 ≠ (kF5 b).2.1 := by decide +kernel
theorem ki5 : u_ws kR5 kF5 5 = [202, 204, 206, 208, 210].filterMap (fun i => lw_tbl[i]?) := by decide +kernel
def kR6 : String := "SowingBoards$Rule"
def kF6 : u_T := fun k => match k with
  | 0 => ("SowingBoards$Rule", "code", "[I", true)
  | 1 => ("SowingBoards$Rule", "values", "[I", true)
  | _ => ("SowingBoards$Rule", "size", "I", false)
theorem kn6 : ∀ a, a < 3 → ∀ b, b < 3 → a ≠ b → (kF6 a).2.1 ≠ (kF6 b).2.1 := by decide +kernel
theorem ki6 : u_ws kR6 kF6 3 = [406, 408, 410].filterMap (fun i => lw_tbl[i]?) := by decide +kernel
def kR7 : String := "SowingBoards$RuleReader"
def kF7 : u_T := fun k => match k with
  | 0 => ("SowingBoards$RuleReader", "waiting", "[I", true)
  | 1 => ("SowingBoards$RuleReader", "compared", "[Z", true)
  | 2 => ("SowingBoards$RuleReader", "rule", "LSowingBoards$Rule;", true)
  | 3 => ("SowingBoards$RuleReader", "waits", "I", false)
  | 4 => ("SowingBoards$RuleReader", "deep", "I", false)
  | 5 => ("SowingBoards$RuleReader", "digits", "I", false)
  | _ => ("SowingBoards$RuleReader", "wantsThing", "Z", false)
theorem kn7 : ∀ a, a < 7 → ∀ b, b < 7 → a ≠ b → (kF7 a).2.1 ≠ (kF7 b).2.1 := by decide +kernel
theorem ki7 : u_ws kR7 kF7 7 = [421, 423, 425, 427, 429, 431, 433].filterMap (fun i => lw_tbl[i]?) := by decide +kernel
def kR8 : String := "SowingBoards$Shelf"
def kF8 : u_T := fun k => match k with
  | 0 => ("SowingBoards$Shelf", "cells", "[I", true)
  | _ => ("SowingBoards$Shelf", "size", "I", false)
theorem kn8 : ∀ a, a < 2 → ∀ b, b < 2 → a ≠ b → (kF8 a).2.1 ≠ (kF8 b).2.1 := by decide +kernel
theorem ki8 : u_ws kR8 kF8 2 = [385, 387].filterMap (fun i => lw_tbl[i]?) := by decide +kernel
def kR9 : String := "SowingBoards$Signs"
def kF9 : u_T := fun k => match k with
  | 0 => ("SowingBoards$Signs", "signs", "[I", true)
  | _ => ("SowingBoards$Signs", "length", "I", false)
theorem kn9 : ∀ a, a < 2 → ∀ b, b < 2 → a ≠ b → (kF9 a).2.1 ≠ (kF9 b).2.1 := by decide +kernel
theorem ki9 : u_ws kR9 kF9 2 = [245, 247].filterMap (fun i => lw_tbl[i]?) := by decide +kernel
def kR10 : String := "SowingBoards$Tree"
def kF10 : u_T := fun k => match k with
  | 0 => ("SowingBoards$Tree", "at", "[LSowingBoards$Position;", true)
  | 1 => ("SowingBoards$Tree", "path", "[I", true)
  | 2 => ("SowingBoards$Tree", "line", "[[I", true)
  | 3 => ("SowingBoards$Tree", "lineSize", "[I", true)
  | 4 => ("SowingBoards$Tree", "move", "LSowingBoards$Move;", true)
  | 5 => ("SowingBoards$Tree", "depth", "I", false)
  | 6 => ("SowingBoards$Tree", "most", "I", false)
  | 7 => ("SowingBoards$Tree", "laws", "I", false)
  | _ => ("SowingBoards$Tree", "oneTurn", "Z", false)
theorem kn10 : ∀ a, a < 9 → ∀ b, b < 9 → a ≠ b → (kF10 a).2.1 ≠ (kF10 b).2.1 := by decide +kernel
theorem ki10 : u_ws kR10 kF10 9 = [357, 359, 361, 363, 365, 367, 369, 371, 373].filterMap (fun i => lw_tbl[i]?) := by decide +kernel
def kR11 : String := "SowingBoards"
def kF11 : u_T := fun k => match k with
  | 0 => ("SowingBoards", "now", "LSowingBoards$Position;", true)
  | 1 => ("SowingBoards", "before", "LSowingBoards$Position;", true)
  | 2 => ("SowingBoards", "ahead", "LSowingBoards$Position;", true)
  | 3 => ("SowingBoards", "kept", "[LSowingBoards$Position;", true)
  | 4 => ("SowingBoards", "isKept", "[Z", true)
  | 5 => ("SowingBoards", "history", "LSowingBoards$History;", true)
  | 6 => ("SowingBoards", "text", "LSowingBoards$Signs;", true)
  | 7 => ("SowingBoards", "numbers", "LSowingBoards$Numbers;", true)
  | 8 => ("SowingBoards", "move", "LSowingBoards$Move;", true)
  | 9 => ("SowingBoards", "player", "LSowingBoards$Player;", true)
  | 10 => ("SowingBoards", "tree", "LSowingBoards$Tree;", true)
  | 11 => ("SowingBoards", "shelf", "LSowingBoards$Shelf;", true)
  | 12 => ("SowingBoards", "reader", "LSowingBoards$RuleReader;", true)
  | 13 => ("SowingBoards", "theRule", "LSowingBoards$Rule;", true)
  | 14 => ("SowingBoards", "greed", "LSowingBoards$Rule;", true)
  | 15 => ("SowingBoards", "clues", "LSowingBoards$Notes;", true)
  | 16 => ("SowingBoards", "sights", "LSowingBoards$Notes;", true)
  | 17 => ("SowingBoards", "tally", "[I", true)
  | _ => ("SowingBoards", "lawSet", "I", false)
theorem kn11 : ∀ a, a < 19 → ∀ b, b < 19 → a ≠ b → (kF11 a).2.1 ≠ (kF11 b).2.1 := by decide +kernel
theorem ki11 : u_ws kR11 kF11 19 = [494, 496, 498, 500, 502, 504, 506, 508, 510, 512, 514, 516, 518, 520, 522, 524, 526, 528, 530].filterMap (fun i => lw_tbl[i]?) := by decide +kernel
def kR12 : String := "SowingBoardsModel"
def kF12 : u_T := fun k => match k with
  | 0 => ("SowingBoardsModel", "now", "[I", true)
  | 1 => ("SowingBoardsModel", "columns", "I", false)
  | 2 => ("SowingBoardsModel", "laws", "I", false)
  | 3 => ("SowingBoardsModel", "text", "[B", true)
  | 4 => ("SowingBoardsModel", "typed", "I", false)
  | 5 => ("SowingBoardsModel", "row", "[J", true)
  | 6 => ("SowingBoardsModel", "rowMany", "I", false)
  | 7 => ("SowingBoardsModel", "thrown", "I", false)
  | 8 => ("SowingBoardsModel", "read", "[B", false)
  | 9 => ("SowingBoardsModel", "length", "I", false)
  | 10 => ("SowingBoardsModel", "top", "I", false)
  | 11 => ("SowingBoardsModel", "at", "I", false)
  | 12 => ("SowingBoardsModel", "wrong", "I", false)
  | 13 => ("SowingBoardsModel", "told", "[I", true)
  | 14 => ("SowingBoardsModel", "rule", "[B", false)
  | 15 => ("SowingBoardsModel", "otherRule", "[B", false)
  | 16 => ("SowingBoardsModel", "ruleSize", "I", false)
  | 17 => ("SowingBoardsModel", "isAsked", "Z", false)
  | 18 => ("SowingBoardsModel", "asked", "[I", true)
  | 19 => ("SowingBoardsModel", "took", "I", false)
  | 20 => ("SowingBoardsModel", "laps", "I", false)
  | 21 => ("SowingBoardsModel", "place", "I", false)
  | 22 => ("SowingBoardsModel", "undos", "[I", true)
  | 23 => ("SowingBoardsModel", "undoMany", "I", false)
  | 24 => ("SowingBoardsModel", "aside", "[I", true)
  | 25 => ("SowingBoardsModel", "then", "[I", true)
  | 26 => ("SowingBoardsModel", "judged", "[I", true)
  | 27 => ("SowingBoardsModel", "acts", "[I", true)
  | 28 => ("SowingBoardsModel", "mostBy", "I", false)
  | 29 => ("SowingBoardsModel", "trail", "[[I", true)
  | 30 => ("SowingBoardsModel", "line", "[I", true)
  | 31 => ("SowingBoardsModel", "bestLine", "[I", true)
  | 32 => ("SowingBoardsModel", "bestMany", "I", false)
  | 33 => ("SowingBoardsModel", "bestTake", "I", false)
  | 34 => ("SowingBoardsModel", "plan", "[[I", true)
  | 35 => ("SowingBoardsModel", "planMany", "[I", true)
  | 36 => ("SowingBoardsModel", "waysMany", "I", false)
  | 37 => ("SowingBoardsModel", "reached", "[I", true)
  | 38 => ("SowingBoardsModel", "reachedMany", "I", false)
  | 39 => ("SowingBoardsModel", "gone", "[I", true)
  | 40 => ("SowingBoardsModel", "single", "[I", true)
  | 41 => ("SowingBoardsModel", "heardOf", "[I", true)
  | 42 => ("SowingBoardsModel", "heardBy", "[I", true)
  | 43 => ("SowingBoardsModel", "heardMany", "I", false)
  | 44 => ("SowingBoardsModel", "sawOf", "[I", true)
  | 45 => ("SowingBoardsModel", "sawIn", "[I", true)
  | 46 => ("SowingBoardsModel", "sawMany", "I", false)
  | 47 => ("SowingBoardsModel", "isLaw", "[Z", true)
  | 48 => ("SowingBoardsModel", "many", "[I", true)
  | 49 => ("SowingBoardsModel", "ownSize", "I", false)
  | 50 => ("SowingBoardsModel", "drawn", "I", false)
  | 51 => ("SowingBoardsModel", "came", "I", false)
  | 52 => ("SowingBoardsModel", "kept", "[I", true)
  | 53 => ("SowingBoardsModel", "isKept", "[Z", true)
  | _ => ("SowingBoardsModel", "keptCame", "[I", true)
theorem kn12 : ∀ a, a < 55 → ∀ b, b < 55 → a ≠ b → (kF12 a).2.1 ≠ (kF12 b).2.1 := by decide +kernel
theorem ki12 : u_ws kR12 kF12 55 = [1393, 1395, 1397, 1399, 1401, 1403, 1405, 1407, 1409, 1411, 1413, 1415, 1417, 1419, 1421, 1423, 1425, 1427, 1429, 1431, 1433, 1435, 1437, 1439, 1441, 1443, 1445, 1447, 1449, 1451, 1453, 1455, 1457, 1459, 1461, 1463, 1465, 1467, 1469, 1471, 1473, 1475, 1477, 1479, 1481, 1483, 1485, 1487, 1489, 1491, 1493, 1495, 1497, 1499, 1501].filterMap (fun i => lw_tbl[i]?) := by decide +kernel
def vcls : List vw_C := [(kR0, kF0, 3), (kR1, kF1, 10), (kR2, kF2, 4), (kR3, kF3, 2), (kR4, kF4, 3), (kR5, kF5, 5), (kR6, kF6, 3), (kR7, kF7, 7), (kR8, kF8, 2), (kR9, kF9, 2), (kR10, kF10, 9), (kR11, kF11, 19), (kR12, kF12, 55)]
/-- the words that a callee may be handed -/
def vtb : List Cond := lw_tbl.filter goodWord
theorem vtb_at {w : Cond} (i : Nat) (h : lw_tbl[i]? = some w) (g : goodWord w = true) : w ∈ vtb := List.mem_filter.mpr ⟨List.mem_of_getElem? h, g⟩
/-- the words on nest mates: they ride with the world -/
def isNw : Cond → Bool
  | .fieldLinkNest _ _ _ _ _ _ => true
  | .methodLinkNest _ _ _ _ => true
  | _ => false
def vnl : List Cond := lw_tbl.filter isNw
theorem vnl_at {w : Cond} (i : Nat) (h : lw_tbl[i]? = some w) (g : isNw w = true) : w ∈ vnl := List.mem_filter.mpr ⟨List.mem_of_getElem? h, g⟩
theorem vtb_tbl {w : Cond} (h : w ∈ vtb) : w ∈ lw_tbl := (List.mem_filter.mp h).1
theorem vcls_in : ∀ q ∈ vcls, ∀ w ∈ u_ws q.1 q.2.1 q.2.2, w ∈ vtb := by
  have key : ∀ (ws : List Cond) (ps : List Nat), ws = ps.filterMap (fun i => lw_tbl[i]?) → ws.all goodWord = true → ∀ w ∈ ws, w ∈ vtb := by
    intro ws ps h g w hw
    have hg := List.all_eq_true.mp g w hw
    rw [h] at hw
    obtain ⟨i, -, hi⟩ := List.mem_filterMap.mp hw
    exact vtb_at i hi hg
  exact List.forall_mem_cons.mpr ⟨key _ _ ki0 (by decide +kernel), List.forall_mem_cons.mpr ⟨key _ _ ki1 (by decide +kernel), List.forall_mem_cons.mpr ⟨key _ _ ki2 (by decide +kernel), List.forall_mem_cons.mpr ⟨key _ _ ki3 (by decide +kernel), List.forall_mem_cons.mpr ⟨key _ _ ki4 (by decide +kernel), List.forall_mem_cons.mpr ⟨key _ _ ki5 (by decide +kernel), List.forall_mem_cons.mpr ⟨key _ _ ki6 (by decide +kernel), List.forall_mem_cons.mpr ⟨key _ _ ki7 (by decide +kernel), List.forall_mem_cons.mpr ⟨key _ _ ki8 (by decide +kernel), List.forall_mem_cons.mpr ⟨key _ _ ki9 (by decide +kernel), List.forall_mem_cons.mpr ⟨key _ _ ki10 (by decide +kernel), List.forall_mem_cons.mpr ⟨key _ _ ki11 (by decide +kernel), List.forall_mem_cons.mpr ⟨key _ _ ki12 (by decide +kernel), fun _ h => absurd h List.not_mem_nil⟩⟩⟩⟩⟩⟩⟩⟩⟩⟩⟩⟩⟩
theorem vcls_nm : ∀ q ∈ vcls, ∀ a, a < q.2.2 → ∀ b, b < q.2.2 → a ≠ b → (q.2.1 a).2.1 ≠ (q.2.1 b).2.1 := by
  exact List.forall_mem_cons.mpr ⟨kn0, List.forall_mem_cons.mpr ⟨kn1, List.forall_mem_cons.mpr ⟨kn2, List.forall_mem_cons.mpr ⟨kn3, List.forall_mem_cons.mpr ⟨kn4, List.forall_mem_cons.mpr ⟨kn5, List.forall_mem_cons.mpr ⟨kn6, List.forall_mem_cons.mpr ⟨kn7, List.forall_mem_cons.mpr ⟨kn8, List.forall_mem_cons.mpr ⟨kn9, List.forall_mem_cons.mpr ⟨kn10, List.forall_mem_cons.mpr ⟨kn11, List.forall_mem_cons.mpr ⟨kn12, fun _ h => absurd h List.not_mem_nil⟩⟩⟩⟩⟩⟩⟩⟩⟩⟩⟩⟩⟩
def vty : String → FieldType := fun d => match d with
  | "I" => .int
  | "LSowingBoards$History;" => .object "SowingBoards$History"
  | "LSowingBoards$Move;" => .object "SowingBoards$Move"
  | "LSowingBoards$Notes;" => .object "SowingBoards$Notes"
  | "LSowingBoards$Numbers;" => .object "SowingBoards$Numbers"
  | "LSowingBoards$Player;" => .object "SowingBoards$Player"
  | "LSowingBoards$Position;" => .object "SowingBoards$Position"
  | "LSowingBoards$Rule;" => .object "SowingBoards$Rule"
  | "LSowingBoards$RuleReader;" => .object "SowingBoards$RuleReader"
  | "LSowingBoards$Shelf;" => .object "SowingBoards$Shelf"
  | "LSowingBoards$Signs;" => .object "SowingBoards$Signs"
  | "LSowingBoards$Tree;" => .object "SowingBoards$Tree"
  | "Z" => .boolean
  | "[B" => .array (.byte)
  | "[I" => .array (.int)
  | "[J" => .array (.long)
  | "[LSowingBoards$Position;" => .array (.object "SowingBoards$Position")
  | "[Z" => .array (.boolean)
  | _ => .array (.array (.int))
theorem kt0 : ∀ k, k < 3 → parseFieldDescriptor (kF0 k).2.2.1 = some (vty (kF0 k).2.2.1) := by decide +kernel
theorem kt1 : ∀ k, k < 10 → parseFieldDescriptor (kF1 k).2.2.1 = some (vty (kF1 k).2.2.1) := by decide +kernel
theorem kt2 : ∀ k, k < 4 → parseFieldDescriptor (kF2 k).2.2.1 = some (vty (kF2 k).2.2.1) := by decide +kernel
theorem kt3 : ∀ k, k < 2 → parseFieldDescriptor (kF3 k).2.2.1 = some (vty (kF3 k).2.2.1) := by decide +kernel
theorem kt4 : ∀ k, k < 3 → parseFieldDescriptor (kF4 k).2.2.1 = some (vty (kF4 k).2.2.1) := by decide +kernel
theorem kt5 : ∀ k, k < 5 → parseFieldDescriptor (kF5 k).2.2.1 = some (vty (kF5 k).2.2.1) := by decide +kernel
theorem kt6 : ∀ k, k < 3 → parseFieldDescriptor (kF6 k).2.2.1 = some (vty (kF6 k).2.2.1) := by decide +kernel
theorem kt7 : ∀ k, k < 7 → parseFieldDescriptor (kF7 k).2.2.1 = some (vty (kF7 k).2.2.1) := by decide +kernel
theorem kt8 : ∀ k, k < 2 → parseFieldDescriptor (kF8 k).2.2.1 = some (vty (kF8 k).2.2.1) := by decide +kernel
theorem kt9 : ∀ k, k < 2 → parseFieldDescriptor (kF9 k).2.2.1 = some (vty (kF9 k).2.2.1) := by decide +kernel
theorem kt10 : ∀ k, k < 9 → parseFieldDescriptor (kF10 k).2.2.1 = some (vty (kF10 k).2.2.1) := by decide +kernel
theorem kt11 : ∀ k, k < 19 → parseFieldDescriptor (kF11 k).2.2.1 = some (vty (kF11 k).2.2.1) := by decide +kernel
theorem kt12 : ∀ k, k < 55 → parseFieldDescriptor (kF12 k).2.2.1 = some (vty (kF12 k).2.2.1) := by decide +kernel
theorem vcls_ty : ∀ q ∈ vcls, ∀ k, k < q.2.2 → parseFieldDescriptor (q.2.1 k).2.2.1 = some (vty (q.2.1 k).2.2.1) := by
  exact List.forall_mem_cons.mpr ⟨kt0, List.forall_mem_cons.mpr ⟨kt1, List.forall_mem_cons.mpr ⟨kt2, List.forall_mem_cons.mpr ⟨kt3, List.forall_mem_cons.mpr ⟨kt4, List.forall_mem_cons.mpr ⟨kt5, List.forall_mem_cons.mpr ⟨kt6, List.forall_mem_cons.mpr ⟨kt7, List.forall_mem_cons.mpr ⟨kt8, List.forall_mem_cons.mpr ⟨kt9, List.forall_mem_cons.mpr ⟨kt10, List.forall_mem_cons.mpr ⟨kt11, List.forall_mem_cons.mpr ⟨kt12, fun _ h => absurd h List.not_mem_nil⟩⟩⟩⟩⟩⟩⟩⟩⟩⟩⟩⟩⟩
/-- ints of objects and arrays by cell and place; longs; the reference's three byte arrays that change places -/
abbrev Wd : Type := (Nat → Nat → Int32) × (Nat → Nat → Int64) × (Nat → Nat)
def fspl : List (List Nat) := [[179, 0, 0], [0, 0, 0, 0, 0, 0, 0, 0, 0, 0], [11, 12, 0, 0], [183, 0], [151, 186, 0], [11, 12, 0, 0, 0], [11, 12, 0], [201, 202, 203, 0, 0, 0, 0], [199, 0], [181, 0], [188, 189, 190, 196, 197, 0, 0, 0, 0], [100, 103, 106, 176, 177, 178, 180, 182, 184, 185, 187, 198, 200, 206, 209, 212, 215, 218, 0], [220, 0, 0, 221, 0, 222, 0, 0, 5, 0, 0, 0, 0, 223, 6, 7, 0, 0, 226, 0, 0, 0, 227, 0, 228, 229, 230, 231, 0, 232, 240, 241, 0, 0, 242, 248, 0, 249, 0, 250, 251, 252, 253, 0, 254, 255, 0, 256, 257, 0, 0, 0, 258, 259, 260]]
def shl : List (Nat × Nat × Nat) := [(7, 11, 0), (5, 2, 9), (3, 2, 0), (7, 0, 0), (5, 12, 15), (7, 9, 0), (1, 80, 0), (7, 3, 0), (4, 20, 0), (7, 1, 0), (7, 4, 0), (7, 1, 0), (7, 10, 0), (5, 7, 54), (1, 6, 0), (6, 5, 91), (1, 4, 0), (1, 4, 0), (1, 4, 0), (1, 4, 0), (1, 4, 0), (1, 5, 0), (7, 1, 0), (7, 8, 0), (1, 3240, 0), (7, 7, 0), (1, 40, 0), (3, 5, 0), (7, 6, 0), (1, 40, 0), (1, 40, 0), (7, 6, 0), (1, 40, 0), (1, 40, 0), (7, 6, 0), (1, 40, 0), (1, 40, 0), (7, 2, 0), (1, 12, 0), (1, 12, 0), (7, 2, 0), (1, 12, 0), (1, 12, 0), (1, 21, 0), (7, 12, 0), (1, 16, 0), (2, 80, 0), (4, 24, 0), (1, 12, 0), (2, 40, 0), (2, 40, 0), (1, 7, 0), (1, 192, 0), (1, 16, 0), (1, 16, 0), (1, 16, 0), (1, 81, 0), (6, 7, 133), (1, 16, 0), (1, 16, 0), (1, 16, 0), (1, 16, 0), (1, 16, 0), (1, 16, 0), (1, 16, 0), (1, 7, 0), (1, 7, 0), (6, 5, 143), (1, 5, 0), (1, 5, 0), (1, 5, 0), (1, 5, 0), (1, 5, 0), (1, 5, 0), (1, 3456, 0), (1, 976, 0), (1, 24, 0), (1, 12, 0), (1, 12, 0), (1, 10, 0), (1, 10, 0), (3, 64, 0), (1, 51, 0), (1, 32, 0), (3, 2, 0), (1, 2, 0), (4, 1, 0)]
/-- what kind of cell: (kind, length or class, first cell) -/
def sh (i : Nat) : Nat × Nat × Nat := if i < 75 then (if i % 3 = 0 then (7, 5, 0) else if i % 3 = 1 then (1, 12, 0) else (1, 2, 0)) else shl.getD (i - 75) (0, 0, 0)
abbrev vN : Nat := 162
