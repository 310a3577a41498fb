/-! names: classes, their fields, the layout of the cells in the order of their making, methods, words of the tables (written by wip/whole/gen/names.py) -/
/-- the words that keep -/
def xT : List Cond := lw_tbl.filter goodWord
theorem xT_mem {w : Cond} (h : w ∈ lw_tbl) (hg : goodWord w = true) : w ∈ xT := List.mem_filter.mpr ⟨h, hg⟩
theorem xT_lw : ∀ w ∈ xT, w ∈ lw_tbl := fun w h => (List.mem_filter.mp h).1
theorem xT_good : ∀ w ∈ xT, goodWord w = true := fun w h => (List.mem_filter.mp h).2
theorem xm1 {w : Cond} (h : w ∈ tables_1_1) : w ∈ lw_tbl := List.mem_append_right _ (show w ∈ tables_1 from List.mem_append_left _ h)
theorem xw1 {w : Cond} (i : Nat) (h : tables_1_1[i]? = some w) (hg : goodWord w = true) : w ∈ xT := xT_mem (xm1 (List.mem_of_getElem? h)) hg
theorem xm2 {w : Cond} (h : w ∈ tables_1_2) : w ∈ lw_tbl := List.mem_append_right _ (show w ∈ tables_1 from List.mem_append_right _ (List.mem_append_left _ h))
theorem xw2 {w : Cond} (i : Nat) (h : tables_1_2[i]? = some w) (hg : goodWord w = true) : w ∈ xT := xT_mem (xm2 (List.mem_of_getElem? h)) hg
theorem xm3 {w : Cond} (h : w ∈ tables_1_3) : w ∈ lw_tbl := List.mem_append_right _ (show w ∈ tables_1 from List.mem_append_right _ (List.mem_append_right _ (List.mem_append_left _ h)))
theorem xw3 {w : Cond} (i : Nat) (h : tables_1_3[i]? = some w) (hg : goodWord w = true) : w ∈ xT := xT_mem (xm3 (List.mem_of_getElem? h)) hg
theorem xm4 {w : Cond} (h : w ∈ tables_1_4) : w ∈ lw_tbl := List.mem_append_right _ (show w ∈ tables_1 from List.mem_append_right _ (List.mem_append_right _ (List.mem_append_right _ (List.mem_append_left _ h))))
theorem xw4 {w : Cond} (i : Nat) (h : tables_1_4[i]? = some w) (hg : goodWord w = true) : w ∈ xT := xT_mem (xm4 (List.mem_of_getElem? h)) hg
theorem xm5 {w : Cond} (h : w ∈ tables_1_5) : w ∈ lw_tbl := List.mem_append_right _ (show w ∈ tables_1 from List.mem_append_right _ (List.mem_append_right _ (List.mem_append_right _ (List.mem_append_right _ (List.mem_append_left _ h)))))
theorem xw5 {w : Cond} (i : Nat) (h : tables_1_5[i]? = some w) (hg : goodWord w = true) : w ∈ xT := xT_mem (xm5 (List.mem_of_getElem? h)) hg
theorem xm6 {w : Cond} (h : w ∈ tables_1_6) : w ∈ lw_tbl := List.mem_append_right _ (show w ∈ tables_1 from List.mem_append_right _ (List.mem_append_right _ (List.mem_append_right _ (List.mem_append_right _ (List.mem_append_right _ (h))))))
theorem xw6 {w : Cond} (i : Nat) (h : tables_1_6[i]? = some w) (hg : goodWord w = true) : w ∈ xT := xT_mem (xm6 (List.mem_of_getElem? h)) hg
def zT0 : u_T := fun k => match k with
  | 0 => ("ArbitratedBus$Bus", "limits", "LArbitratedBus$Limits;", true)
  | 1 => ("ArbitratedBus$Bus", "nodes", "[LArbitratedBus$Node;", true)
  | 2 => ("ArbitratedBus$Bus", "disturbances", "LArbitratedBus$Disturbances;", true)
  | 3 => ("ArbitratedBus$Bus", "levels", "[I", true)
  | _ => ("ArbitratedBus$Bus", "now", "I", false)
def zY0 : Nat → FieldType := fun k => match k with
  | 0 => .object "ArbitratedBus$Limits"
  | 1 => .array (.object "ArbitratedBus$Node")
  | 2 => .object "ArbitratedBus$Disturbances"
  | 3 => .array (.int)
  | _ => .int
def zT1 : u_T := fun k => match k with
  | 0 => ("ArbitratedBus$Disturbances", "sets", "[I", true)
  | 1 => ("ArbitratedBus$Disturbances", "times", "[I", true)
  | _ => ("ArbitratedBus$Disturbances", "size", "I", false)
def zY1 : Nat → FieldType := fun k => match k with
  | 0 => .array (.int)
  | 1 => .array (.int)
  | _ => .int
def zT2 : u_T := fun k => match k with
  | 0 => ("ArbitratedBus$FrameBits", "basicBits", "I", false)
  | 1 => ("ArbitratedBus$FrameBits", "bodyBits", "I", false)
  | 2 => ("ArbitratedBus$FrameBits", "body", "J", false)
  | 3 => ("ArbitratedBus$FrameBits", "header", "I", false)
  | 4 => ("ArbitratedBus$FrameBits", "ownCrc", "I", false)
  | 5 => ("ArbitratedBus$FrameBits", "sampledCrc", "I", false)
  | 6 => ("ArbitratedBus$FrameBits", "latest", "I", false)
  | 7 => ("ArbitratedBus$FrameBits", "equalBits", "I", false)
  | _ => ("ArbitratedBus$FrameBits", "tail", "I", false)
def zY2 : Nat → FieldType := fun k => match k with
  | 0 => .int
  | 1 => .int
  | 2 => .long
  | 3 => .int
  | 4 => .int
  | 5 => .int
  | 6 => .int
  | 7 => .int
  | _ => .int
def zT3 : u_T := fun k => match k with
  | 0 => ("ArbitratedBus$FrameList", "keys", "[I", true)
  | 1 => ("ArbitratedBus$FrameList", "lengths", "[I", true)
  | 2 => ("ArbitratedBus$FrameList", "datas", "[I", true)
  | _ => ("ArbitratedBus$FrameList", "size", "I", false)
def zY3 : Nat → FieldType := fun k => match k with
  | 0 => .array (.int)
  | 1 => .array (.int)
  | 2 => .array (.int)
  | _ => .int
def zT4 : u_T := fun k => match k with
  | 0 => ("ArbitratedBus$Limits", "passive", "I", false)
  | 1 => ("ArbitratedBus$Limits", "off", "I", false)
  | _ => ("ArbitratedBus$Limits", "recovery", "I", false)
def zY4 : Nat → FieldType := fun k => match k with
  | 0 => .int
  | 1 => .int
  | _ => .int
def zT5 : u_T := fun k => match k with
  | 0 => ("ArbitratedBus$Messages", "identifiers", "[I", true)
  | 1 => ("ArbitratedBus$Messages", "longest", "[I", true)
  | 2 => ("ArbitratedBus$Messages", "periods", "[I", true)
  | 3 => ("ArbitratedBus$Messages", "jitters", "[I", true)
  | _ => ("ArbitratedBus$Messages", "size", "I", false)
def zY5 : Nat → FieldType := fun k => match k with
  | 0 => .array (.int)
  | 1 => .array (.int)
  | 2 => .array (.int)
  | 3 => .array (.int)
  | _ => .int
def zT6 : u_T := fun k => match k with
  | 0 => ("ArbitratedBus$Node", "limits", "LArbitratedBus$Limits;", true)
  | 1 => ("ArbitratedBus$Node", "tally", "LArbitratedBus$Tally;", true)
  | 2 => ("ArbitratedBus$Node", "waitingFrames", "LArbitratedBus$FrameList;", true)
  | 3 => ("ArbitratedBus$Node", "receivedFrames", "LArbitratedBus$FrameList;", true)
  | 4 => ("ArbitratedBus$Node", "answers", "LArbitratedBus$FrameList;", true)
  | 5 => ("ArbitratedBus$Node", "bits", "LArbitratedBus$FrameBits;", true)
  | 6 => ("ArbitratedBus$Node", "mask", "I", false)
  | 7 => ("ArbitratedBus$Node", "code", "I", false)
  | 8 => ("ArbitratedBus$Node", "phase", "I", false)
  | 9 => ("ArbitratedBus$Node", "transmitter", "Z", false)
  | 10 => ("ArbitratedBus$Node", "transmitCounter", "I", false)
  | 11 => ("ArbitratedBus$Node", "receiveCounter", "I", false)
  | 12 => ("ArbitratedBus$Node", "count", "I", false)
  | 13 => ("ArbitratedBus$Node", "sequences", "I", false)
  | 14 => ("ArbitratedBus$Node", "flagIsActive", "Z", false)
  | 15 => ("ArbitratedBus$Node", "isFirstAfterFlag", "Z", false)
  | 16 => ("ArbitratedBus$Node", "driven", "I", false)
  | 17 => ("ArbitratedBus$Node", "sending", "I", false)
  | _ => ("ArbitratedBus$Node", "outgoing", "J", false)
def zY6 : Nat → FieldType := fun k => match k with
  | 0 => .object "ArbitratedBus$Limits"
  | 1 => .object "ArbitratedBus$Tally"
  | 2 => .object "ArbitratedBus$FrameList"
  | 3 => .object "ArbitratedBus$FrameList"
  | 4 => .object "ArbitratedBus$FrameList"
  | 5 => .object "ArbitratedBus$FrameBits"
  | 6 => .int
  | 7 => .int
  | 8 => .int
  | 9 => .boolean
  | 10 => .int
  | 11 => .int
  | 12 => .int
  | 13 => .int
  | 14 => .boolean
  | 15 => .boolean
  | 16 => .int
  | 17 => .int
  | _ => .long
def zT7 : u_T := fun k => match k with
  | 0 => ("ArbitratedBus$RequestReader", "state", "I", false)
  | 1 => ("ArbitratedBus$RequestReader", "node", "I", false)
  | 2 => ("ArbitratedBus$RequestReader", "identifier", "I", false)
  | 3 => ("ArbitratedBus$RequestReader", "remote", "Z", false)
  | 4 => ("ArbitratedBus$RequestReader", "length", "I", false)
  | _ => ("ArbitratedBus$RequestReader", "data", "I", false)
def zY7 : Nat → FieldType := fun k => match k with
  | 0 => .int
  | 1 => .int
  | 2 => .int
  | 3 => .boolean
  | 4 => .int
  | _ => .int
def zT8 : u_T := fun k => match k with
  | 0 => ("ArbitratedBus$Tally", "errorCounts", "[I", true)
  | 1 => ("ArbitratedBus$Tally", "latestError", "I", false)
  | 2 => ("ArbitratedBus$Tally", "lost", "I", false)
  | 3 => ("ArbitratedBus$Tally", "overloaded", "I", false)
  | 4 => ("ArbitratedBus$Tally", "sentFrames", "I", false)
  | _ => ("ArbitratedBus$Tally", "overrun", "I", false)
def zY8 : Nat → FieldType := fun k => match k with
  | 0 => .array (.int)
  | 1 => .int
  | 2 => .int
  | 3 => .int
  | 4 => .int
  | _ => .int
def zT9 : u_T := fun k => match k with
  | 0 => ("ArbitratedBus$Text", "reader", "LArbitratedBus$RequestReader;", true)
  | 1 => ("ArbitratedBus$Text", "letters", "[I", true)
  | _ => ("ArbitratedBus$Text", "size", "I", false)
def zY9 : Nat → FieldType := fun k => match k with
  | 0 => .object "ArbitratedBus$RequestReader"
  | 1 => .array (.int)
  | _ => .int
def zT10 : u_T := fun k => match k with
  | 0 => ("ArbitratedBus", "bus", "LArbitratedBus$Bus;", true)
  | 1 => ("ArbitratedBus", "forecast", "LArbitratedBus$Bus;", true)
  | 2 => ("ArbitratedBus", "slots", "[LArbitratedBus$Bus;", true)
  | 3 => ("ArbitratedBus", "isSaved", "[Z", true)
  | 4 => ("ArbitratedBus", "walker", "LArbitratedBus$FrameBits;", true)
  | 5 => ("ArbitratedBus", "messages", "LArbitratedBus$Messages;", true)
  | _ => ("ArbitratedBus", "text", "LArbitratedBus$Text;", true)
def zY10 : Nat → FieldType := fun k => match k with
  | 0 => .object "ArbitratedBus$Bus"
  | 1 => .object "ArbitratedBus$Bus"
  | 2 => .array (.object "ArbitratedBus$Bus")
  | 3 => .array (.boolean)
  | 4 => .object "ArbitratedBus$FrameBits"
  | 5 => .object "ArbitratedBus$Messages"
  | _ => .object "ArbitratedBus$Text"
def zT11 : u_T := fun k => match k with
  | 0 => ("ArbitratedBusModel", "v", "[I", true)
  | 1 => ("ArbitratedBusModel", "spare", "[I", true)
  | 2 => ("ArbitratedBusModel", "kept", "[I", true)
  | 3 => ("ArbitratedBusModel", "isKept", "[Z", true)
  | 4 => ("ArbitratedBusModel", "text", "[I", true)
  | 5 => ("ArbitratedBusModel", "letters", "I", false)
  | 6 => ("ArbitratedBusModel", "messages", "[I", true)
  | 7 => ("ArbitratedBusModel", "many", "I", false)
  | 8 => ("ArbitratedBusModel", "asked", "[I", true)
  | 9 => ("ArbitratedBusModel", "place", "I", false)
  | _ => ("ArbitratedBusModel", "told", "[I", true)
def zY11 : Nat → FieldType := fun k => match k with
  | 0 => .array (.int)
  | 1 => .array (.int)
  | 2 => .array (.int)
  | 3 => .array (.boolean)
  | 4 => .array (.int)
  | 5 => .int
  | 6 => .array (.int)
  | 7 => .int
  | 8 => .array (.int)
  | 9 => .int
  | _ => .array (.int)
abbrev xC : List vw_C := [("ArbitratedBus$Bus", zT0, 5), ("ArbitratedBus$Disturbances", zT1, 3), ("ArbitratedBus$FrameBits", zT2, 9), ("ArbitratedBus$FrameList", zT3, 4), ("ArbitratedBus$Limits", zT4, 3), ("ArbitratedBus$Messages", zT5, 5), ("ArbitratedBus$Node", zT6, 19), ("ArbitratedBus$RequestReader", zT7, 6), ("ArbitratedBus$Tally", zT8, 6), ("ArbitratedBus$Text", zT9, 3), ("ArbitratedBus", zT10, 7), ("ArbitratedBusModel", zT11, 11)]
def xN : Nat → Nat := fun c => match c with
  | 0 => 5
  | 1 => 3
  | 2 => 9
  | 3 => 4
  | 4 => 3
  | 5 => 5
  | 6 => 19
  | 7 => 6
  | 8 => 6
  | 9 => 3
  | 10 => 7
  | _ => 11
def xTy : Nat → Nat → FieldType := fun c => match c with
  | 0 => zY0
  | 1 => zY1
  | 2 => zY2
  | 3 => zY3
  | 4 => zY4
  | 5 => zY5
  | 6 => zY6
  | 7 => zY7
  | 8 => zY8
  | 9 => zY9
  | 10 => zY10
  | _ => zY11
def lyN : List (Nat × Nat) := [(0, 6), (0, 8), (1, 6), (0, 3), (1, 4), (1, 4), (1, 4), (0, 3), (1, 6), (1, 6), (1, 6), (0, 3), (1, 4), (1, 4), (1, 4), (0, 2)]
def lyB : List (Nat × Nat) := [(0, 0), (0, 4), (4, 4)] ++ (lyN ++ (lyN ++ (lyN ++ (lyN ++ [(0, 1), (1, 8), (1, 8), (1, 256)]))))
def lyL : List (Nat × Nat) := (0, 10) :: (lyB ++ (lyB ++ ((3, 2) :: (lyB ++ (lyB ++ [(2, 2), (0, 2), (0, 5), (1, 8), (1, 8), (1, 8), (1, 8), (0, 9), (0, 7), (1, 120), (0, 11), (1, 1310), (1, 1310), (1, 2620), (2, 2), (1, 120), (1, 32), (1, 66), (1, 5)])))))
def lay (k : Nat) : Nat × Nat := lyL.getD k (9, 0)
def R0L : List (List (Option Nat)) := [[some 1, some 72, some 143, some 286, some 287, some 288, some 293], [some 2, some 3, some 68, some 71], [], [some 4, some 20, some 36, some 52], [some 2, some 5, some 7, some 11, some 15, some 19], [some 6], [], [some 8, some 9, some 10], [], [], [], [some 12, some 13, some 14], [], [], [], [some 16, some 17, some 18], [], [], [], [], [some 2, some 21, some 23, some 27, some 31, some 35], [some 22], [], [some 24, some 25, some 26], [], [], [], [some 28, some 29, some 30], [], [], [], [some 32, some 33, some 34], [], [], [], [], [some 2, some 37, some 39, some 43, some 47, some 51], [some 38], [], [some 40, some 41, some 42], [], [], [], [some 44, some 45, some 46], [], [], [], [some 48, some 49, some 50], [], [], [], [], [some 2, some 53, some 55, some 59, some 63, some 67], [some 54], [], [some 56, some 57, some 58], [], [], [], [some 60, some 61, some 62], [], [], [], [some 64, some 65, some 66], [], [], [], [], [some 69, some 70], [], [], [], [some 73, some 74, some 139, some 142], [], [some 75, some 91, some 107, some 123], [some 73, some 76, some 78, some 82, some 86, some 90], [some 77], [], [some 79, some 80, some 81], [], [], [], [some 83, some 84, some 85], [], [], [], [some 87, some 88, some 89], [], [], [], [], [some 73, some 92, some 94, some 98, some 102, some 106], [some 93], [], [some 95, some 96, some 97], [], [], [], [some 99, some 100, some 101], [], [], [], [some 103, some 104, some 105], [], [], [], [], [some 73, some 108, some 110, some 114, some 118, some 122], [some 109], [], [some 111, some 112, some 113], [], [], [], [some 115, some 116, some 117], [], [], [], [some 119, some 120, some 121], [], [], [], [], [some 73, some 124, some 126, some 130, some 134, some 138], [some 125], [], [some 127, some 128, some 129], [], [], [], [some 131, some 132, some 133], [], [], [], [some 135, some 136, some 137], [], [], [], [], [some 140, some 141], [], [], [], [some 144, some 215], [some 145, some 146, some 211, some 214], [], [some 147, some 163, some 179, some 195], [some 145, some 148, some 150, some 154, some 158, some 162], [some 149], [], [some 151, some 152, some 153], [], [], [], [some 155, some 156, some 157], [], [], [], [some 159, some 160, some 161], [], [], [], [], [some 145, some 164, some 166, some 170, some 174, some 178], [some 165], [], [some 167, some 168, some 169], [], [], [], [some 171, some 172, some 173], [], [], [], [some 175, some 176, some 177], [], [], [], [], [some 145, some 180, some 182, some 186, some 190, some 194], [some 181], [], [some 183, some 184, some 185], [], [], [], [some 187, some 188, some 189], [], [], [], [some 191, some 192, some 193], [], [], [], [], [some 145, some 196, some 198, some 202, some 206, some 210], [some 197], [], [some 199, some 200, some 201], [], [], [], [some 203, some 204, some 205], [], [], [], [some 207, some 208, some 209], [], [], [], [], [some 212, some 213], [], [], [], [some 216, some 217, some 282, some 285], [], [some 218, some 234, some 250, some 266], [some 216, some 219, some 221, some 225, some 229, some 233], [some 220], [], [some 222, some 223, some 224], [], [], [], [some 226, some 227, some 228], [], [], [], [some 230, some 231, some 232], [], [], [], [], [some 216, some 235, some 237, some 241, some 245, some 249], [some 236], [], [some 238, some 239, some 240], [], [], [], [some 242, some 243, some 244], [], [], [], [some 246, some 247, some 248], [], [], [], [], [some 216, some 251, some 253, some 257, some 261, some 265], [some 252], [], [some 254, some 255, some 256], [], [], [], [some 258, some 259, some 260], [], [], [], [some 262, some 263, some 264], [], [], [], [], [some 216, some 267, some 269, some 273, some 277, some 281], [some 268], [], [some 270, some 271, some 272], [], [], [], [some 274, some 275, some 276], [], [], [], [some 278, some 279, some 280], [], [], [], [], [some 283, some 284], [], [], [], [], [], [some 289, some 290, some 291, some 292], [], [], [], [], [some 294, some 295], [], [], [some 297, some 298, some 299, some 300, some 301, none, some 302, none, some 303, none, some 304], [], [], [], [], [], [], [], []]
def R0 (k j : Nat) : Option Nat := (R0L.getD k []).getD j none
theorem zN0 : ∀ a, a < 5 → ∀ b, b < 5 → a ≠ b → (zT0 a).2.1 ≠ (zT0 b).2.1 := by decide +kernel
theorem zK0 : ∀ k, k < 5 → parseFieldDescriptor (zT0 k).2.2.1 = some (zY0 k) := by decide +kernel
theorem zI0 : ∀ w ∈ u_ws "ArbitratedBus$Bus" zT0 5, w ∈ xT := by
  intro w hw
  obtain ⟨k, hk, rfl⟩ := List.mem_map.mp hw
  have hk := List.mem_range.mp hk
  match k, hk with
  | 0, _ => exact xw2 15 (by decide +kernel) rfl
  | 1, _ => exact xw2 17 (by decide +kernel) rfl
  | 2, _ => exact xw2 19 (by decide +kernel) rfl
  | 3, _ => exact xw2 21 (by decide +kernel) rfl
  | 4, _ => exact xw2 23 (by decide +kernel) rfl
  | n + 5, h => exact absurd h (by omega)
theorem zN1 : ∀ a, a < 3 → ∀ b, b < 3 → a ≠ b → (zT1 a).2.1 ≠ (zT1 b).2.1 := by decide +kernel
theorem zK1 : ∀ k, k < 3 → parseFieldDescriptor (zT1 k).2.2.1 = some (zY1 k) := by decide +kernel
theorem zI1 : ∀ w ∈ u_ws "ArbitratedBus$Disturbances" zT1 3, w ∈ xT := by
  intro w hw
  obtain ⟨k, hk, rfl⟩ := List.mem_map.mp hw
  have hk := List.mem_range.mp hk
  match k, hk with
  | 0, _ => exact xw1 239 (by decide +kernel) rfl
  | 1, _ => exact xw2 1 (by decide +kernel) rfl
  | 2, _ => exact xw2 3 (by decide +kernel) rfl
  | n + 3, h => exact absurd h (by omega)
theorem zN2 : ∀ a, a < 9 → ∀ b, b < 9 → a ≠ b → (zT2 a).2.1 ≠ (zT2 b).2.1 := by decide +kernel
theorem zK2 : ∀ k, k < 9 → parseFieldDescriptor (zT2 k).2.2.1 = some (zY2 k) := by decide +kernel
theorem zI2 : ∀ w ∈ u_ws "ArbitratedBus$FrameBits" zT2 9, w ∈ xT := by
  intro w hw
  obtain ⟨k, hk, rfl⟩ := List.mem_map.mp hw
  have hk := List.mem_range.mp hk
  match k, hk with
  | 0, _ => exact xw1 139 (by decide +kernel) rfl
  | 1, _ => exact xw1 141 (by decide +kernel) rfl
  | 2, _ => exact xw1 143 (by decide +kernel) rfl
  | 3, _ => exact xw1 145 (by decide +kernel) rfl
  | 4, _ => exact xw1 147 (by decide +kernel) rfl
  | 5, _ => exact xw1 149 (by decide +kernel) rfl
  | 6, _ => exact xw1 151 (by decide +kernel) rfl
  | 7, _ => exact xw1 153 (by decide +kernel) rfl
  | 8, _ => exact xw1 155 (by decide +kernel) rfl
  | n + 9, h => exact absurd h (by omega)
theorem zN3 : ∀ a, a < 4 → ∀ b, b < 4 → a ≠ b → (zT3 a).2.1 ≠ (zT3 b).2.1 := by decide +kernel
theorem zK3 : ∀ k, k < 4 → parseFieldDescriptor (zT3 k).2.2.1 = some (zY3 k) := by decide +kernel
theorem zI3 : ∀ w ∈ u_ws "ArbitratedBus$FrameList" zT3 4, w ∈ xT := by
  intro w hw
  obtain ⟨k, hk, rfl⟩ := List.mem_map.mp hw
  have hk := List.mem_range.mp hk
  match k, hk with
  | 0, _ => exact xw1 111 (by decide +kernel) rfl
  | 1, _ => exact xw1 113 (by decide +kernel) rfl
  | 2, _ => exact xw1 115 (by decide +kernel) rfl
  | 3, _ => exact xw1 117 (by decide +kernel) rfl
  | n + 4, h => exact absurd h (by omega)
theorem zN4 : ∀ a, a < 3 → ∀ b, b < 3 → a ≠ b → (zT4 a).2.1 ≠ (zT4 b).2.1 := by decide +kernel
theorem zK4 : ∀ k, k < 3 → parseFieldDescriptor (zT4 k).2.2.1 = some (zY4 k) := by decide +kernel
theorem zI4 : ∀ w ∈ u_ws "ArbitratedBus$Limits" zT4 3, w ∈ xT := by
  intro w hw
  obtain ⟨k, hk, rfl⟩ := List.mem_map.mp hw
  have hk := List.mem_range.mp hk
  match k, hk with
  | 0, _ => exact xw1 44 (by decide +kernel) rfl
  | 1, _ => exact xw1 46 (by decide +kernel) rfl
  | 2, _ => exact xw1 48 (by decide +kernel) rfl
  | n + 3, h => exact absurd h (by omega)
theorem zN5 : ∀ a, a < 5 → ∀ b, b < 5 → a ≠ b → (zT5 a).2.1 ≠ (zT5 b).2.1 := by decide +kernel
theorem zK5 : ∀ k, k < 5 → parseFieldDescriptor (zT5 k).2.2.1 = some (zY5 k) := by decide +kernel
theorem zI5 : ∀ w ∈ u_ws "ArbitratedBus$Messages" zT5 5, w ∈ xT := by
  intro w hw
  obtain ⟨k, hk, rfl⟩ := List.mem_map.mp hw
  have hk := List.mem_range.mp hk
  match k, hk with
  | 0, _ => exact xw2 41 (by decide +kernel) rfl
  | 1, _ => exact xw2 43 (by decide +kernel) rfl
  | 2, _ => exact xw2 45 (by decide +kernel) rfl
  | 3, _ => exact xw2 47 (by decide +kernel) rfl
  | 4, _ => exact xw2 49 (by decide +kernel) rfl
  | n + 5, h => exact absurd h (by omega)
theorem zN6 : ∀ a, a < 19 → ∀ b, b < 19 → a ≠ b → (zT6 a).2.1 ≠ (zT6 b).2.1 := by decide +kernel
theorem zK6 : ∀ k, k < 19 → parseFieldDescriptor (zT6 k).2.2.1 = some (zY6 k) := by decide +kernel
theorem zI6 : ∀ w ∈ u_ws "ArbitratedBus$Node" zT6 19, w ∈ xT := by
  intro w hw
  obtain ⟨k, hk, rfl⟩ := List.mem_map.mp hw
  have hk := List.mem_range.mp hk
  match k, hk with
  | 0, _ => exact xw1 190 (by decide +kernel) rfl
  | 1, _ => exact xw1 192 (by decide +kernel) rfl
  | 2, _ => exact xw1 194 (by decide +kernel) rfl
  | 3, _ => exact xw1 196 (by decide +kernel) rfl
  | 4, _ => exact xw1 198 (by decide +kernel) rfl
  | 5, _ => exact xw1 200 (by decide +kernel) rfl
  | 6, _ => exact xw1 202 (by decide +kernel) rfl
  | 7, _ => exact xw1 204 (by decide +kernel) rfl
  | 8, _ => exact xw1 206 (by decide +kernel) rfl
  | 9, _ => exact xw1 208 (by decide +kernel) rfl
  | 10, _ => exact xw1 210 (by decide +kernel) rfl
  | 11, _ => exact xw1 212 (by decide +kernel) rfl
  | 12, _ => exact xw1 214 (by decide +kernel) rfl
  | 13, _ => exact xw1 216 (by decide +kernel) rfl
  | 14, _ => exact xw1 218 (by decide +kernel) rfl
  | 15, _ => exact xw1 220 (by decide +kernel) rfl
  | 16, _ => exact xw1 222 (by decide +kernel) rfl
  | 17, _ => exact xw1 224 (by decide +kernel) rfl
  | 18, _ => exact xw1 226 (by decide +kernel) rfl
  | n + 19, h => exact absurd h (by omega)
theorem zN7 : ∀ a, a < 6 → ∀ b, b < 6 → a ≠ b → (zT7 a).2.1 ≠ (zT7 b).2.1 := by decide +kernel
theorem zK7 : ∀ k, k < 6 → parseFieldDescriptor (zT7 k).2.2.1 = some (zY7 k) := by decide +kernel
theorem zI7 : ∀ w ∈ u_ws "ArbitratedBus$RequestReader" zT7 6, w ∈ xT := by
  intro w hw
  obtain ⟨k, hk, rfl⟩ := List.mem_map.mp hw
  have hk := List.mem_range.mp hk
  match k, hk with
  | 0, _ => exact xw2 76 (by decide +kernel) rfl
  | 1, _ => exact xw2 78 (by decide +kernel) rfl
  | 2, _ => exact xw2 80 (by decide +kernel) rfl
  | 3, _ => exact xw2 82 (by decide +kernel) rfl
  | 4, _ => exact xw2 84 (by decide +kernel) rfl
  | 5, _ => exact xw2 86 (by decide +kernel) rfl
  | n + 6, h => exact absurd h (by omega)
theorem zN8 : ∀ a, a < 6 → ∀ b, b < 6 → a ≠ b → (zT8 a).2.1 ≠ (zT8 b).2.1 := by decide +kernel
theorem zK8 : ∀ k, k < 6 → parseFieldDescriptor (zT8 k).2.2.1 = some (zY8 k) := by decide +kernel
theorem zI8 : ∀ w ∈ u_ws "ArbitratedBus$Tally" zT8 6, w ∈ xT := by
  intro w hw
  obtain ⟨k, hk, rfl⟩ := List.mem_map.mp hw
  have hk := List.mem_range.mp hk
  match k, hk with
  | 0, _ => exact xw1 81 (by decide +kernel) rfl
  | 1, _ => exact xw1 83 (by decide +kernel) rfl
  | 2, _ => exact xw1 85 (by decide +kernel) rfl
  | 3, _ => exact xw1 87 (by decide +kernel) rfl
  | 4, _ => exact xw1 89 (by decide +kernel) rfl
  | 5, _ => exact xw1 91 (by decide +kernel) rfl
  | n + 6, h => exact absurd h (by omega)
theorem zN9 : ∀ a, a < 3 → ∀ b, b < 3 → a ≠ b → (zT9 a).2.1 ≠ (zT9 b).2.1 := by decide +kernel
theorem zK9 : ∀ k, k < 3 → parseFieldDescriptor (zT9 k).2.2.1 = some (zY9 k) := by decide +kernel
theorem zI9 : ∀ w ∈ u_ws "ArbitratedBus$Text" zT9 3, w ∈ xT := by
  intro w hw
  obtain ⟨k, hk, rfl⟩ := List.mem_map.mp hw
  have hk := List.mem_range.mp hk
  match k, hk with
  | 0, _ => exact xw2 94 (by decide +kernel) rfl
  | 1, _ => exact xw2 96 (by decide +kernel) rfl
  | 2, _ => exact xw2 98 (by decide +kernel) rfl
  | n + 3, h => exact absurd h (by omega)
theorem zN10 : ∀ a, a < 7 → ∀ b, b < 7 → a ≠ b → (zT10 a).2.1 ≠ (zT10 b).2.1 := by decide +kernel
theorem zK10 : ∀ k, k < 7 → parseFieldDescriptor (zT10 k).2.2.1 = some (zY10 k) := by decide +kernel
theorem zI10 : ∀ w ∈ u_ws "ArbitratedBus" zT10 7, w ∈ xT := by
  intro w hw
  obtain ⟨k, hk, rfl⟩ := List.mem_map.mp hw
  have hk := List.mem_range.mp hk
  match k, hk with
  | 0, _ => exact xw2 108 (by decide +kernel) rfl
  | 1, _ => exact xw2 110 (by decide +kernel) rfl
  | 2, _ => exact xw2 112 (by decide +kernel) rfl
  | 3, _ => exact xw2 114 (by decide +kernel) rfl
  | 4, _ => exact xw2 116 (by decide +kernel) rfl
  | 5, _ => exact xw2 118 (by decide +kernel) rfl
  | 6, _ => exact xw2 120 (by decide +kernel) rfl
  | n + 7, h => exact absurd h (by omega)
theorem zN11 : ∀ a, a < 11 → ∀ b, b < 11 → a ≠ b → (zT11 a).2.1 ≠ (zT11 b).2.1 := by decide +kernel
theorem zK11 : ∀ k, k < 11 → parseFieldDescriptor (zT11 k).2.2.1 = some (zY11 k) := by decide +kernel
theorem zI11 : ∀ w ∈ u_ws "ArbitratedBusModel" zT11 11, w ∈ xT := by
  intro w hw
  obtain ⟨k, hk, rfl⟩ := List.mem_map.mp hw
  have hk := List.mem_range.mp hk
  match k, hk with
  | 0, _ => exact xw5 19 (by decide +kernel) rfl
  | 1, _ => exact xw5 21 (by decide +kernel) rfl
  | 2, _ => exact xw5 23 (by decide +kernel) rfl
  | 3, _ => exact xw5 25 (by decide +kernel) rfl
  | 4, _ => exact xw5 27 (by decide +kernel) rfl
  | 5, _ => exact xw5 29 (by decide +kernel) rfl
  | 6, _ => exact xw5 31 (by decide +kernel) rfl
  | 7, _ => exact xw5 33 (by decide +kernel) rfl
  | 8, _ => exact xw5 35 (by decide +kernel) rfl
  | 9, _ => exact xw5 37 (by decide +kernel) rfl
  | 10, _ => exact xw5 39 (by decide +kernel) rfl
  | n + 11, h => exact absurd h (by omega)
theorem xC_ok : ∀ (c : Nat) (q : vw_C), xC[c]? = some q → q.2.2 = xN c ∧ (∀ w ∈ u_ws q.1 q.2.1 q.2.2, w ∈ xT) ∧ (∀ k, k < q.2.2 → parseFieldDescriptor (q.2.1 k).2.2.1 = some (xTy c k)) ∧ (∀ a, a < q.2.2 → ∀ b, b < q.2.2 → a ≠ b → (q.2.1 a).2.1 ≠ (q.2.1 b).2.1) := by
  intro c q h
  match c, h with
  | 0, h => cases h; exact ⟨rfl, zI0, zK0, zN0⟩
  | 1, h => cases h; exact ⟨rfl, zI1, zK1, zN1⟩
  | 2, h => cases h; exact ⟨rfl, zI2, zK2, zN2⟩
  | 3, h => cases h; exact ⟨rfl, zI3, zK3, zN3⟩
  | 4, h => cases h; exact ⟨rfl, zI4, zK4, zN4⟩
  | 5, h => cases h; exact ⟨rfl, zI5, zK5, zN5⟩
  | 6, h => cases h; exact ⟨rfl, zI6, zK6, zN6⟩
  | 7, h => cases h; exact ⟨rfl, zI7, zK7, zN7⟩
  | 8, h => cases h; exact ⟨rfl, zI8, zK8, zN8⟩
  | 9, h => cases h; exact ⟨rfl, zI9, zK9, zN9⟩
  | 10, h => cases h; exact ⟨rfl, zI10, zK10, zN10⟩
  | 11, h => cases h; exact ⟨rfl, zI11, zK11, zN11⟩
  | n + 12, h => simp [xC] at h
