theorem gw_mem {w : Cond} {p : Nat} (h : lw_tbl[p]? = some w) (hg : goodWord w = true) : w ∈ lw_tbl.filter goodWord := List.mem_filter.mpr ⟨List.mem_of_getElem? h, hg⟩
theorem gw_of (ws : List Cond) (ps : List Nat) (hp : ws = ps.filterMap (fun i => lw_tbl[i]?)) (h : ws.all goodWord = true) : ∀ w ∈ ws, w ∈ lw_tbl.filter goodWord := by
  intro w hw
  have h1 := List.all_eq_true.mp h w hw
  rw [hp] at hw
  obtain ⟨i, -, hi⟩ := List.mem_filterMap.mp hw
  exact gw_mem hi h1
-- the classes, their fields, the fixed cells, the links: by program (wip/whole/gen/world.py)
def gws : List Cond := lw_tbl.filter goodWord
def kR : Nat → String := fun k => match k with
  | 0 => "SevenLeague$Chances"
  | 1 => "SevenLeague$Country"
  | 2 => "SevenLeague$History"
  | 3 => "SevenLeague$Numbers"
  | 4 => "SevenLeague$Paths"
  | 5 => "SevenLeague$Reade\x72"
  | 6 => "SevenLeague$Shelf"
  | 7 => "SevenLeague$State"
  | 8 => "SevenLeague$Tours"
  | 9 => "SevenLeague"
  | 10 => "SevenLeagueModel"
  | 11 => "SevenLeagueLaw"
  | 12 => "java/lang/Intege\x72"
  | 13 => "java/lang/Long"
  | 14 => "java/lang/Math"
  | 15 => "java/lang/String"
  | 16 => "java/lang/StringLatin1"
  | 17 => "jdk/internal/util/Preconditions"
  | _ => ""
def kT_0 : u_T := fun k => match k with
  | 0 => ("SevenLeague$Chances", "inCell", "J", false)
  | 1 => ("SevenLeague$Chances", "folkLost", "J", false)
  | 2 => ("SevenLeague$Chances", "all", "J", false)
  | 3 => ("SevenLeague$Chances", "row", "I", false)
  | 4 => ("SevenLeague$Chances", "strides", "I", false)
  | _ => ("SevenLeague$Chances", "goal", "I", false)
def kY_0 : Nat → FieldType := fun k => match k with
  | 0 => .long
  | 1 => .long
  | 2 => .long
  | 3 => .int
  | 4 => .int
  | _ => .int
theorem kN_0 : ∀ a, a < 6 → ∀ b, b < 6 → a ≠ b → (kT_0 a).2.1 ≠ (kT_0 b).2.1 := by decide +kernel
theorem kY_0_ok : ∀ k, k < 6 → parseFieldDescriptor (kT_0 k).2.2.1 = some (kY_0 k) := by decide +kernel
set_option maxRecDepth 20000 in
theorem kU_0 : ∀ w ∈ u_ws (kR 0) kT_0 6, w ∈ gws := gw_of _ [460, 462, 464, 466, 468, 470] (by decide +kernel) (by decide +kernel)
def kT_1 : u_T := fun k => match k with
  | 0 => ("SevenLeague$Country", "cells", "I", false)
  | 1 => ("SevenLeague$Country", "gout", "I", false)
  | 2 => ("SevenLeague$Country", "sonFirst", "I", false)
  | 3 => ("SevenLeague$Country", "curateFirst", "I", false)
  | 4 => ("SevenLeague$Country", "bog", "J", false)
  | 5 => ("SevenLeague$Country", "wood", "J", false)
  | 6 => ("SevenLeague$Country", "boots", "LSevenLeague$Numbers;", true)
  | 7 => ("SevenLeague$Country", "placeCells", "LSevenLeague$Numbers;", true)
  | 8 => ("SevenLeague$Country", "folk", "LSevenLeague$Numbers;", true)
  | 9 => ("SevenLeague$Country", "strides", "LSevenLeague$Numbers;", true)
  | 10 => ("SevenLeague$Country", "unsure", "LSevenLeague$Numbers;", true)
  | 11 => ("SevenLeague$Country", "seenCells", "LSevenLeague$Numbers;", true)
  | 12 => ("SevenLeague$Country", "seenGone", "LSevenLeague$Numbers;", true)
  | 13 => ("SevenLeague$Country", "toldSon", "I", false)
  | _ => ("SevenLeague$Country", "toldGone", "J", false)
def kY_1 : Nat → FieldType := fun k => match k with
  | 0 => .int
  | 1 => .int
  | 2 => .int
  | 3 => .int
  | 4 => .long
  | 5 => .long
  | 6 => .object "SevenLeague$Numbers"
  | 7 => .object "SevenLeague$Numbers"
  | 8 => .object "SevenLeague$Numbers"
  | 9 => .object "SevenLeague$Numbers"
  | 10 => .object "SevenLeague$Numbers"
  | 11 => .object "SevenLeague$Numbers"
  | 12 => .object "SevenLeague$Numbers"
  | 13 => .int
  | _ => .long
theorem kN_1 : ∀ a, a < 15 → ∀ b, b < 15 → a ≠ b → (kT_1 a).2.1 ≠ (kT_1 b).2.1 := by decide +kernel
theorem kY_1_ok : ∀ k, k < 15 → parseFieldDescriptor (kT_1 k).2.2.1 = some (kY_1 k) := by decide +kernel
set_option maxRecDepth 20000 in
theorem kU_1 : ∀ w ∈ u_ws (kR 1) kT_1 15, w ∈ gws := gw_of _ [213, 215, 217, 219, 221, 223, 225, 227, 229, 231, 233, 235, 237, 239, 241] (by decide +kernel) (by decide +kernel)
def kT_2 : u_T := fun k => match k with
  | 0 => ("SevenLeague$History", "shelf", "LSevenLeague$Shelf;", true)
  | 1 => ("SevenLeague$History", "next", "I", false)
  | _ => ("SevenLeague$History", "kept", "I", false)
def kY_2 : Nat → FieldType := fun k => match k with
  | 0 => .object "SevenLeague$Shelf"
  | 1 => .int
  | _ => .int
theorem kN_2 : ∀ a, a < 3 → ∀ b, b < 3 → a ≠ b → (kT_2 a).2.1 ≠ (kT_2 b).2.1 := by decide +kernel
theorem kY_2_ok : ∀ k, k < 3 → parseFieldDescriptor (kT_2 k).2.2.1 = some (kY_2 k) := by decide +kernel
set_option maxRecDepth 20000 in
theorem kU_2 : ∀ w ∈ u_ws (kR 2) kT_2 3, w ∈ gws := gw_of _ [364, 366, 368] (by decide +kernel) (by decide +kernel)
def kT_3 : u_T := fun k => match k with
  | 0 => ("SevenLeague$Numbers", "values", "[I", true)
  | _ => ("SevenLeague$Numbers", "count", "I", false)
def kY_3 : Nat → FieldType := fun k => match k with
  | 0 => .array .int
  | _ => .int
theorem kN_3 : ∀ a, a < 2 → ∀ b, b < 2 → a ≠ b → (kT_3 a).2.1 ≠ (kT_3 b).2.1 := by decide +kernel
theorem kY_3_ok : ∀ k, k < 2 → parseFieldDescriptor (kT_3 k).2.2.1 = some (kY_3 k) := by decide +kernel
set_option maxRecDepth 20000 in
theorem kU_3 : ∀ w ∈ u_ws (kR 3) kT_3 2, w ∈ gws := gw_of _ [163, 165] (by decide +kernel) (by decide +kernel)
def kT_4 : u_T := fun k => match k with
  | 0 => ("SevenLeague$Paths", "comeLengths", "[I", true)
  | 1 => ("SevenLeague$Paths", "comeRows", "[I", true)
  | 2 => ("SevenLeague$Paths", "spareFolk", "[I", true)
  | 3 => ("SevenLeague$Paths", "spareLengths", "[I", true)
  | 4 => ("SevenLeague$Paths", "spareRows", "[I", true)
  | 5 => ("SevenLeague$Paths", "reachedBy", "[J", true)
  | 6 => ("SevenLeague$Paths", "fewest", "[I", true)
  | 7 => ("SevenLeague$Paths", "land", "LSevenLeague$Country;", false)
  | 8 => ("SevenLeague$Paths", "fromGone", "J", false)
  | 9 => ("SevenLeague$Paths", "fromSon", "I", false)
  | 10 => ("SevenLeague$Paths", "fromLost", "I", false)
  | _ => ("SevenLeague$Paths", "placesThere", "J", false)
def kY_4 : Nat → FieldType := fun k => match k with
  | 0 => .array .int
  | 1 => .array .int
  | 2 => .array .int
  | 3 => .array .int
  | 4 => .array .int
  | 5 => .array .long
  | 6 => .array .int
  | 7 => .object "SevenLeague$Country"
  | 8 => .long
  | 9 => .int
  | 10 => .int
  | _ => .long
theorem kN_4 : ∀ a, a < 12 → ∀ b, b < 12 → a ≠ b → (kT_4 a).2.1 ≠ (kT_4 b).2.1 := by decide +kernel
theorem kY_4_ok : ∀ k, k < 12 → parseFieldDescriptor (kT_4 k).2.2.1 = some (kY_4 k) := by decide +kernel
set_option maxRecDepth 20000 in
theorem kU_4 : ∀ w ∈ u_ws (kR 4) kT_4 12, w ∈ gws := gw_of _ [391, 393, 395, 397, 399, 401, 403, 405, 407, 409, 411, 413] (by decide +kernel) (by decide +kernel)
def kT_5 : u_T := fun k => match k with
  | 0 => ("SevenLeague$Reade\x72", "tape", "[B", true)
  | 1 => ("SevenLeague$Reade\x72", "tapeSize", "I", false)
  | 2 => ("SevenLeague$Reade\x72", "end", "I", false)
  | 3 => ("SevenLeague$Reade\x72", "kind", "I", false)
  | 4 => ("SevenLeague$Reade\x72", "from", "I", false)
  | 5 => ("SevenLeague$Reade\x72", "to", "I", false)
  | 6 => ("SevenLeague$Reade\x72", "value", "I", false)
  | 7 => ("SevenLeague$Reade\x72", "draft", "LSevenLeague$Country;", false)
  | 8 => ("SevenLeague$Reade\x72", "told", "[I", true)
  | 9 => ("SevenLeague$Reade\x72", "nameFrom", "LSevenLeague$Numbers;", true)
  | 10 => ("SevenLeague$Reade\x72", "nameTo", "LSevenLeague$Numbers;", true)
  | 11 => ("SevenLeague$Reade\x72", "nameBoots", "LSevenLeague$Numbers;", true)
  | 12 => ("SevenLeague$Reade\x72", "firstFault", "I", false)
  | _ => ("SevenLeague$Reade\x72", "faultAt", "I", false)
def kY_5 : Nat → FieldType := fun k => match k with
  | 0 => .array .byte
  | 1 => .int
  | 2 => .int
  | 3 => .int
  | 4 => .int
  | 5 => .int
  | 6 => .int
  | 7 => .object "SevenLeague$Country"
  | 8 => .array .int
  | 9 => .object "SevenLeague$Numbers"
  | 10 => .object "SevenLeague$Numbers"
  | 11 => .object "SevenLeague$Numbers"
  | 12 => .int
  | _ => .int
theorem kN_5 : ∀ a, a < 14 → ∀ b, b < 14 → a ≠ b → (kT_5 a).2.1 ≠ (kT_5 b).2.1 := by decide +kernel
theorem kY_5_ok : ∀ k, k < 14 → parseFieldDescriptor (kT_5 k).2.2.1 = some (kY_5 k) := by decide +kernel
set_option maxRecDepth 20000 in
theorem kU_5 : ∀ w ∈ u_ws (kR 5) kT_5 14, w ∈ gws := gw_of _ [264, 266, 268, 270, 272, 274, 276, 278, 280, 282, 284, 286, 288, 290] (by decide +kernel) (by decide +kernel)
def kT_6 : u_T := fun k => match k with
  | 0 => ("SevenLeague$Shelf", "lows", "[J", true)
  | 1 => ("SevenLeague$Shelf", "highs", "[J", true)
  | 2 => ("SevenLeague$Shelf", "sons", "[I", true)
  | 3 => ("SevenLeague$Shelf", "curates", "[I", true)
  | _ => ("SevenLeague$Shelf", "years", "[I", true)
def kY_6 : Nat → FieldType := fun k => match k with
  | 0 => .array .long
  | 1 => .array .long
  | 2 => .array .int
  | 3 => .array .int
  | _ => .array .int
theorem kN_6 : ∀ a, a < 5 → ∀ b, b < 5 → a ≠ b → (kT_6 a).2.1 ≠ (kT_6 b).2.1 := by decide +kernel
theorem kY_6_ok : ∀ k, k < 5 → parseFieldDescriptor (kT_6 k).2.2.1 = some (kY_6 k) := by decide +kernel
set_option maxRecDepth 20000 in
theorem kU_6 : ∀ w ∈ u_ws (kR 6) kT_6 5, w ∈ gws := gw_of _ [348, 350, 352, 354, 356] (by decide +kernel) (by decide +kernel)
def kT_7 : u_T := fun k => match k with
  | 0 => ("SevenLeague$State", "low", "J", false)
  | 1 => ("SevenLeague$State", "high", "J", false)
  | 2 => ("SevenLeague$State", "son", "I", false)
  | 3 => ("SevenLeague$State", "curate", "I", false)
  | _ => ("SevenLeague$State", "years", "I", false)
def kY_7 : Nat → FieldType := fun k => match k with
  | 0 => .long
  | 1 => .long
  | 2 => .int
  | 3 => .int
  | _ => .int
theorem kN_7 : ∀ a, a < 5 → ∀ b, b < 5 → a ≠ b → (kT_7 a).2.1 ≠ (kT_7 b).2.1 := by decide +kernel
theorem kY_7_ok : ∀ k, k < 5 → parseFieldDescriptor (kT_7 k).2.2.1 = some (kY_7 k) := by decide +kernel
set_option maxRecDepth 20000 in
theorem kU_7 : ∀ w ∈ u_ws (kR 7) kT_7 5, w ∈ gws := gw_of _ [319, 321, 323, 325, 327] (by decide +kernel) (by decide +kernel)
def kT_8 : u_T := fun k => match k with
  | 0 => ("SevenLeague$Tours", "folkLost", "I", false)
  | 1 => ("SevenLeague$Tours", "cellsGone", "I", false)
  | 2 => ("SevenLeague$Tours", "path", "I", false)
  | 3 => ("SevenLeague$Tours", "length", "I", false)
  | 4 => ("SevenLeague$Tours", "found", "Z", false)
  | _ => ("SevenLeague$Tours", "walk", "LSevenLeague$State;", true)
def kY_8 : Nat → FieldType := fun k => match k with
  | 0 => .int
  | 1 => .int
  | 2 => .int
  | 3 => .int
  | 4 => .boolean
  | _ => .object "SevenLeague$State"
theorem kN_8 : ∀ a, a < 6 → ∀ b, b < 6 → a ≠ b → (kT_8 a).2.1 ≠ (kT_8 b).2.1 := by decide +kernel
theorem kY_8_ok : ∀ k, k < 6 → parseFieldDescriptor (kT_8 k).2.2.1 = some (kY_8 k) := by decide +kernel
set_option maxRecDepth 20000 in
theorem kU_8 : ∀ w ∈ u_ws (kR 8) kT_8 6, w ∈ gws := gw_of _ [432, 434, 436, 438, 440, 442] (by decide +kernel) (by decide +kernel)
def kT_9 : u_T := fun k => match k with
  | 0 => ("SevenLeague", "reade\x72", "LSevenLeague$Reader;", true)
  | 1 => ("SevenLeague", "country", "LSevenLeague$Country;", false)
  | 2 => ("SevenLeague", "now", "LSevenLeague$State;", true)
  | 3 => ("SevenLeague", "late\x72", "LSevenLeague$State;", true)
  | 4 => ("SevenLeague", "history", "LSevenLeague$History;", true)
  | 5 => ("SevenLeague", "images", "LSevenLeague$Shelf;", true)
  | 6 => ("SevenLeague", "imageCount", "I", false)
  | 7 => ("SevenLeague", "paths", "LSevenLeague$Paths;", true)
  | 8 => ("SevenLeague", "tours", "LSevenLeague$Tours;", true)
  | 9 => ("SevenLeague", "chances", "LSevenLeague$Chances;", true)
  | _ => ("SevenLeague", "lastTrouble", "I", false)
def kY_9 : Nat → FieldType := fun k => match k with
  | 0 => .object "SevenLeague$Reade\x72"
  | 1 => .object "SevenLeague$Country"
  | 2 => .object "SevenLeague$State"
  | 3 => .object "SevenLeague$State"
  | 4 => .object "SevenLeague$History"
  | 5 => .object "SevenLeague$Shelf"
  | 6 => .int
  | 7 => .object "SevenLeague$Paths"
  | 8 => .object "SevenLeague$Tours"
  | 9 => .object "SevenLeague$Chances"
  | _ => .int
theorem kN_9 : ∀ a, a < 11 → ∀ b, b < 11 → a ≠ b → (kT_9 a).2.1 ≠ (kT_9 b).2.1 := by decide +kernel
theorem kY_9_ok : ∀ k, k < 11 → parseFieldDescriptor (kT_9 k).2.2.1 = some (kY_9 k) := by decide +kernel
set_option maxRecDepth 20000 in
theorem kU_9 : ∀ w ∈ u_ws (kR 9) kT_9 11, w ∈ gws := gw_of _ [484, 486, 488, 490, 492, 494, 496, 498, 500, 502, 504] (by decide +kernel) (by decide +kernel)
def kT_10 : u_T := fun k => match k with
  | 0 => ("SevenLeagueModel", "thrown", "I", false)
  | 1 => ("SevenLeagueModel", "tape", "[I", true)
  | 2 => ("SevenLeagueModel", "taped", "I", false)
  | 3 => ("SevenLeagueModel", "size", "I", false)
  | 4 => ("SevenLeagueModel", "at", "I", false)
  | 5 => ("SevenLeagueModel", "end", "I", false)
  | 6 => ("SevenLeagueModel", "token", "I", false)
  | 7 => ("SevenLeagueModel", "whole", "I", false)
  | 8 => ("SevenLeagueModel", "nameSize", "I", false)
  | 9 => ("SevenLeagueModel", "fault", "I", false)
  | 10 => ("SevenLeagueModel", "place", "I", false)
  | 11 => ("SevenLeagueModel", "trouble", "I", false)
  | 12 => ("SevenLeagueModel", "letters", "[I", true)
  | 13 => ("SevenLeagueModel", "failed", "Z", false)
  | 14 => ("SevenLeagueModel", "hasLand", "Z", false)
  | 15 => ("SevenLeagueModel", "\x72", "[I", true)
  | 16 => ("SevenLeagueModel", "fresh", "[I", true)
  | 17 => ("SevenLeagueModel", "begun", "[I", true)
  | 18 => ("SevenLeagueModel", "ahead", "[I", true)
  | 19 => ("SevenLeagueModel", "read", "[I", true)
  | 20 => ("SevenLeagueModel", "st", "[I", true)
  | 21 => ("SevenLeagueModel", "trial", "[I", true)
  | 22 => ("SevenLeagueModel", "undone", "[I", true)
  | 23 => ("SevenLeagueModel", "kept", "[I", true)
  | 24 => ("SevenLeagueModel", "undos", "I", false)
  | 25 => ("SevenLeagueModel", "images", "I", false)
  | 26 => ("SevenLeagueModel", "then", "[I", true)
  | 27 => ("SevenLeagueModel", "changed", "Z", false)
  | 28 => ("SevenLeagueModel", "runs", "I", false)
  | 29 => ("SevenLeagueModel", "longAt", "I", false)
  | 30 => ("SevenLeagueModel", "longBy", "I", false)
  | 31 => ("SevenLeagueModel", "digits", "[I", true)
  | 32 => ("SevenLeagueModel", "lands", "[I", true)
  | 33 => ("SevenLeagueModel", "now", "[I", true)
  | 34 => ("SevenLeagueModel", "strides", "[I", true)
  | 35 => ("SevenLeagueModel", "goal", "I", false)
  | 36 => ("SevenLeagueModel", "limit", "I", false)
  | 37 => ("SevenLeagueModel", "bestFew", "I", false)
  | 38 => ("SevenLeagueModel", "bestLost", "I", false)
  | 39 => ("SevenLeagueModel", "bestRow", "I", false)
  | 40 => ("SevenLeagueModel", "few", "[I", true)
  | 41 => ("SevenLeagueModel", "tourSet", "I", false)
  | 42 => ("SevenLeagueModel", "tourLost", "I", false)
  | 43 => ("SevenLeagueModel", "tourLeft", "I", false)
  | 44 => ("SevenLeagueModel", "often", "[I", true)
  | 45 => ("SevenLeagueModel", "setMany", "I", false)
  | 46 => ("SevenLeagueModel", "someOf", "I", false)
  | 47 => ("SevenLeagueModel", "allOf", "I", false)
  | 48 => ("SevenLeagueModel", "firstRest", "I", false)
  | 49 => ("SevenLeagueModel", "allWeight", "J", false)
  | 50 => ("SevenLeagueModel", "thereWeight", "J", false)
  | _ => ("SevenLeagueModel", "lostSum", "J", false)
def kY_10 : Nat → FieldType := fun k => match k with
  | 0 => .int
  | 1 => .array .int
  | 2 => .int
  | 3 => .int
  | 4 => .int
  | 5 => .int
  | 6 => .int
  | 7 => .int
  | 8 => .int
  | 9 => .int
  | 10 => .int
  | 11 => .int
  | 12 => .array .int
  | 13 => .boolean
  | 14 => .boolean
  | 15 => .array .int
  | 16 => .array .int
  | 17 => .array .int
  | 18 => .array .int
  | 19 => .array .int
  | 20 => .array .int
  | 21 => .array .int
  | 22 => .array .int
  | 23 => .array .int
  | 24 => .int
  | 25 => .int
  | 26 => .array .int
  | 27 => .boolean
  | 28 => .int
  | 29 => .int
  | 30 => .int
  | 31 => .array .int
  | 32 => .array .int
  | 33 => .array .int
  | 34 => .array .int
  | 35 => .int
  | 36 => .int
  | 37 => .int
  | 38 => .int
  | 39 => .int
  | 40 => .array .int
  | 41 => .int
  | 42 => .int
  | 43 => .int
  | 44 => .array .int
  | 45 => .int
  | 46 => .int
  | 47 => .int
  | 48 => .int
  | 49 => .long
  | 50 => .long
  | _ => .long
theorem kN_10 : ∀ a, a < 52 → ∀ b, b < 52 → a ≠ b → (kT_10 a).2.1 ≠ (kT_10 b).2.1 := by decide +kernel
theorem kY_10_ok : ∀ k, k < 52 → parseFieldDescriptor (kT_10 k).2.2.1 = some (kY_10 k) := by decide +kernel
set_option maxRecDepth 20000 in
theorem kU_10 : ∀ w ∈ u_ws (kR 10) kT_10 52, w ∈ gws := gw_of _ [1461, 1463, 1465, 1467, 1469, 1471, 1473, 1475, 1477, 1479, 1481, 1483, 1485, 1487, 1489, 1491, 1493, 1495, 1497, 1499, 1501, 1503, 1505, 1507, 1509, 1511, 1513, 1515, 1517, 1519, 1521, 1523, 1525, 1527, 1529, 1531, 1533, 1535, 1537, 1539, 1541, 1543, 1545, 1547, 1549, 1551, 1553, 1555, 1557, 1559, 1561, 1563] (by decide +kernel) (by decide +kernel)
abbrev vCl : List vw_C := [(kR 0, kT_0, 6), (kR 1, kT_1, 15), (kR 2, kT_2, 3), (kR 3, kT_3, 2), (kR 4, kT_4, 12), (kR 5, kT_5, 14), (kR 6, kT_6, 5), (kR 7, kT_7, 5), (kR 8, kT_8, 6), (kR 9, kT_9, 11), (kR 10, kT_10, 52)]
abbrev Shp : Type := (Nat × List (Nat × Nat)) ⊕ (Nat × Nat)
def SH : List Shp := [
  .inl (9, [(2, 1), (2, 10), (2, 40), (2, 41), (2, 42), (2, 49), (0, 0), (2, 55), (2, 63), (2, 65), (0, 0)]),
  .inl (5, [(2, 2), (0, 0), (0, 0), (0, 0), (0, 0), (0, 0), (0, 0), (2, 25), (2, 3), (2, 4), (2, 6), (2, 8), (0, 0), (0, 0)]),
  .inr (1, 900),
  .inr (0, 7),
  .inl (3, [(2, 5), (0, 0)]),
  .inr (0, 9),
  .inl (3, [(2, 7), (0, 0)]),
  .inr (0, 9),
  .inl (3, [(2, 9), (0, 0)]),
  .inr (0, 9),
  .inl (1, [(0, 0), (0, 0), (0, 0), (0, 0), (1, 0), (1, 0), (2, 11), (2, 13), (2, 15), (2, 17), (2, 19), (2, 21), (2, 23), (0, 0), (1, 0)]),
  .inl (3, [(2, 12), (0, 0)]),
  .inr (0, 3),
  .inl (3, [(2, 14), (0, 0)]),
  .inr (0, 6),
  .inl (3, [(2, 16), (0, 0)]),
  .inr (0, 6),
  .inl (3, [(2, 18), (0, 0)]),
  .inr (0, 8),
  .inl (3, [(2, 20), (0, 0)]),
  .inr (0, 4),
  .inl (3, [(2, 22), (0, 0)]),
  .inr (0, 6),
  .inl (3, [(2, 24), (0, 0)]),
  .inr (0, 6),
  .inl (1, [(0, 0), (0, 0), (0, 0), (0, 0), (1, 0), (1, 0), (2, 26), (2, 28), (2, 30), (2, 32), (2, 34), (2, 36), (2, 38), (0, 0), (1, 0)]),
  .inl (3, [(2, 27), (0, 0)]),
  .inr (0, 3),
  .inl (3, [(2, 29), (0, 0)]),
  .inr (0, 6),
  .inl (3, [(2, 31), (0, 0)]),
  .inr (0, 6),
  .inl (3, [(2, 33), (0, 0)]),
  .inr (0, 8),
  .inl (3, [(2, 35), (0, 0)]),
  .inr (0, 4),
  .inl (3, [(2, 37), (0, 0)]),
  .inr (0, 6),
  .inl (3, [(2, 39), (0, 0)]),
  .inr (0, 6),
  .inl (7, [(1, 0), (1, 0), (0, 0), (0, 0), (0, 0)]),
  .inl (7, [(1, 0), (1, 0), (0, 0), (0, 0), (0, 0)]),
  .inl (2, [(2, 43), (0, 0), (0, 0)]),
  .inl (6, [(2, 44), (2, 45), (2, 46), (2, 47), (2, 48)]),
  .inr (2, 16),
  .inr (2, 16),
  .inr (0, 16),
  .inr (0, 16),
  .inr (0, 16),
  .inl (6, [(2, 50), (2, 51), (2, 52), (2, 53), (2, 54)]),
  .inr (2, 3),
  .inr (2, 3),
  .inr (0, 3),
  .inr (0, 3),
  .inr (0, 3),
  .inl (4, [(2, 56), (2, 57), (2, 58), (2, 59), (2, 60), (2, 61), (2, 62), (3, 0), (1, 0), (0, 0), (0, 0), (1, 0)]),
  .inr (0, 60),
  .inr (0, 60),
  .inr (0, 60),
  .inr (0, 60),
  .inr (0, 60),
  .inr (2, 6),
  .inr (0, 61),
  .inl (8, [(0, 0), (0, 0), (0, 0), (0, 0), (4, 0), (2, 64)]),
  .inl (7, [(1, 0), (1, 0), (0, 0), (0, 0), (0, 0)]),
  .inl (0, [(1, 0), (1, 0), (1, 0), (0, 0), (0, 0), (0, 0)]),
  .inl (10, [(0, 0), (2, 67), (0, 0), (0, 0), (0, 0), (0, 0), (0, 0), (0, 0), (0, 0), (0, 0), (0, 0), (0, 0), (2, 68), (4, 0), (4, 0), (2, 69), (2, 70), (2, 71), (2, 72), (2, 73), (2, 74), (2, 75), (2, 76), (2, 77), (0, 0), (0, 0), (2, 78), (4, 0), (0, 0), (0, 0), (0, 0), (2, 79), (2, 80), (2, 81), (2, 82), (0, 0), (0, 0), (0, 0), (0, 0), (0, 0), (2, 83), (0, 0), (0, 0), (0, 0), (2, 84), (0, 0), (0, 0), (0, 0), (0, 0), (1, 0), (1, 0), (1, 0)]),
  .inr (0, 900),
  .inr (0, 8),
  .inr (0, 189),
  .inr (0, 189),
  .inr (0, 63),
  .inr (0, 63),
  .inr (0, 63),
  .inr (0, 63),
  .inr (0, 63),
  .inr (0, 1008),
  .inr (0, 189),
  .inr (0, 60),
  .inr (0, 5),
  .inr (0, 378),
  .inr (0, 63),
  .inr (0, 60),
  .inr (0, 61),
  .inr (0, 4),
  .inr (2, 1)]
def lkA : List (List (Nat × Nat × Nat × Nat)) := [
  [(9, 0, 0, 451), (15, 0, 1, 453), (18, 0, 2, 455), (21, 0, 3, 457), (25, 0, 4, 458), (28, 0, 5, 459), (39, 7, 2, 308), (60, 1, 1, 175)],
  [(9, 1, 0, 170), (15, 1, 1, 174), (18, 1, 2, 178), (21, 1, 3, 180), (24, 1, 4, 183), (28, 1, 5, 184), (36, 1, 6, 185), (40, 1, 7, 189), (43, 1, 8, 193), (46, 1, 9, 196), (49, 1, 10, 199), (52, 1, 11, 202), (55, 1, 12, 205), (58, 1, 13, 207), (61, 1, 14, 210), (64, 3, 1, 159)],
  [(14, 2, 0, 360), (20, 2, 1, 361), (24, 2, 2, 362)],
  [(9, 3, 1, 158), (21, 3, 0, 157)],
  [(9, 4, 0, 379), (15, 4, 1, 380), (18, 4, 2, 381), (21, 4, 3, 382), (24, 4, 4, 383), (27, 4, 5, 384), (31, 4, 6, 385), (34, 4, 7, 386), (38, 4, 8, 387), (42, 4, 9, 388), (46, 4, 10, 389), (49, 4, 11, 390), (58, 7, 2, 309), (67, 1, 7, 190), (71, 3, 1, 160), (96, 1, 6, 186)],
  [(9, 5, 0, 246), (15, 5, 1, 247), (19, 5, 2, 249), (22, 5, 3, 250), (25, 5, 4, 251), (28, 5, 5, 252), (31, 5, 6, 253), (37, 5, 7, 254), (41, 5, 8, 256), (50, 5, 9, 257), (54, 5, 10, 258), (57, 5, 11, 259), (60, 5, 12, 260), (63, 5, 13, 262), (88, 3, 1, 161), (95, 1, 6, 187), (139, 1, 0, 173), (146, 1, 2, 179), (149, 1, 13, 209), (154, 1, 3, 182), (159, 1, 1, 176), (190, 1, 7, 192), (195, 1, 8, 195), (209, 1, 14, 212), (220, 1, 9, 197), (223, 1, 10, 200), (229, 1, 11, 203), (236, 1, 12, 206)],
  [(13, 6, 0, 343), (19, 6, 1, 344), (22, 6, 2, 345), (26, 6, 3, 346), (29, 6, 4, 347), (36, 7, 0, 303), (42, 7, 1, 306), (45, 7, 2, 310), (49, 7, 3, 314), (52, 7, 4, 317)],
  [(9, 7, 0, 301), (15, 7, 1, 304), (18, 7, 2, 307), (22, 7, 3, 312), (25, 7, 4, 316), (28, 1, 14, 211), (40, 1, 13, 208), (43, 1, 3, 181)],
  [(9, 8, 0, 424), (15, 8, 1, 426), (18, 8, 2, 428), (21, 8, 3, 429), (24, 8, 4, 430), (31, 8, 5, 431), (35, 7, 0, 302), (39, 7, 1, 305), (42, 7, 3, 313), (53, 1, 0, 171)],
  [(10, 9, 0, 473), (19, 9, 1, 474), (26, 9, 2, 475), (30, 9, 3, 476), (36, 9, 4, 477), (45, 9, 5, 478), (49, 9, 6, 479), (56, 9, 7, 480), (63, 9, 8, 481), (70, 9, 9, 482), (74, 9, 10, 483), (77, 5, 1, 248), (90, 5, 12, 261), (93, 5, 7, 255), (104, 1, 0, 172), (107, 5, 13, 263), (123, 7, 2, 311), (126, 7, 3, 315), (129, 1, 7, 191), (133, 3, 1, 162), (141, 1, 8, 194), (155, 1, 6, 188), (276, 8, 0, 425), (279, 8, 1, 427), (322, 0, 0, 452), (326, 0, 2, 456), (333, 0, 1, 454), (337, 1, 1, 177), (356, 7, 4, 318), (375, 1, 9, 198), (378, 1, 10, 201), (381, 1, 11, 204), (384, 2, 2, 363)],
  [(7, 10, 1, 1410), (13, 10, 10, 1419), (17, 10, 12, 1421), (20, 10, 15, 1424), (23, 10, 16, 1425), (26, 10, 17, 1426), (29, 10, 18, 1427), (32, 10, 19, 1428), (35, 10, 20, 1429), (38, 10, 21, 1430), (41, 10, 22, 1431), (44, 10, 23, 1432), (47, 10, 26, 1435), (50, 10, 31, 1440), (53, 10, 32, 1441), (56, 10, 33, 1442), (59, 10, 34, 1443), (62, 10, 40, 1449), (65, 10, 44, 1453), (68, 10, 0, 1409), (71, 10, 11, 1420), (74, 10, 2, 1411), (77, 10, 3, 1412), (80, 10, 5, 1414), (87, 10, 4, 1413), (90, 10, 8, 1417), (93, 10, 7, 1416), (96, 10, 6, 1415), (106, 10, 13, 1422), (110, 10, 9, 1418), (187, 10, 14, 1423), (190, 10, 24, 1433), (193, 10, 25, 1434), (269, 10, 27, 1436), (297, 10, 28, 1437), (300, 10, 29, 1438), (303, 10, 30, 1439), (335, 10, 35, 1444), (338, 10, 39, 1448), (341, 10, 38, 1447), (344, 10, 37, 1446), (347, 10, 36, 1445), (365, 10, 41, 1450), (372, 10, 42, 1451), (375, 10, 43, 1452), (387, 10, 45, 1454), (390, 10, 46, 1455), (393, 10, 47, 1456), (412, 10, 48, 1457), (418, 10, 49, 1458), (422, 10, 50, 1459), (425, 10, 51, 1460)]]
def cIA : List (List (Nat × Int32 × Nat)) := [
  [],
  [],
  [],
  [],
  [],
  [],
  [],
  [],
  [],
  [(335, 65536, 1268), (336, 65537, 1269)],
  [(313, 100000000, 1810), (435, 65536, 2048), (436, 65537, 2049)],
  [],
  [(265, 1431655765, 1167), (266, 858993459, 1168), (267, 252645135, 1169)]]
def cLA : List (List (Nat × Int64 × Nat)) := [
  [(31, 100, 1247)],
  [(71, (-1), 669)],
  [],
  [],
  [(106, (-1), 1029)],
  [],
  [],
  [(68, (-1), 920)],
  [],
  [(174, (-1), 663), (254, 1073741823, 1066)],
  [],
  [],
  [],
  [(314, 6148914691236517205, 830), (316, 3689348814741910323, 831), (318, 1085102592571150095, 832)]]
def kYt : Nat → Nat → FieldType := fun c => match c with
  | 0 => kY_0
  | 1 => kY_1
  | 2 => kY_2
  | 3 => kY_3
  | 4 => kY_4
  | 5 => kY_5
  | 6 => kY_6
  | 7 => kY_7
  | 8 => kY_8
  | 9 => kY_9
  | _ => kY_10
theorem cl_ok {ci : Nat} {c : vw_C} (h : vCl[ci]? = some c) : (∀ w ∈ u_ws c.1 c.2.1 c.2.2, w ∈ gws) ∧ (∀ k, k < c.2.2 → parseFieldDescriptor (c.2.1 k).2.2.1 = some (kYt ci k)) ∧ (∀ a, a < c.2.2 → ∀ b, b < c.2.2 → a ≠ b → (c.2.1 a).2.1 ≠ (c.2.1 b).2.1) := by
  match ci, h with
  | 0, h => cases h; exact ⟨kU_0, kY_0_ok, kN_0⟩
  | 1, h => cases h; exact ⟨kU_1, kY_1_ok, kN_1⟩
  | 2, h => cases h; exact ⟨kU_2, kY_2_ok, kN_2⟩
  | 3, h => cases h; exact ⟨kU_3, kY_3_ok, kN_3⟩
  | 4, h => cases h; exact ⟨kU_4, kY_4_ok, kN_4⟩
  | 5, h => cases h; exact ⟨kU_5, kY_5_ok, kN_5⟩
  | 6, h => cases h; exact ⟨kU_6, kY_6_ok, kN_6⟩
  | 7, h => cases h; exact ⟨kU_7, kY_7_ok, kN_7⟩
  | 8, h => cases h; exact ⟨kU_8, kY_8_ok, kN_8⟩
  | 9, h => cases h; exact ⟨kU_9, kY_9_ok, kN_9⟩
  | 10, h => cases h; exact ⟨kU_10, kY_10_ok, kN_10⟩
  | n + 11, h => simp [vCl] at h
def lk (own idx : Nat) : Option (Nat × Nat) := ((lkA.getD own []).find? (fun q => q.1 == idx)).map (fun q => (q.2.1, q.2.2.1))
def cI (own idx : Nat) : Option Int32 := ((cIA.getD own []).find? (fun q => q.1 == idx)).map (fun q => q.2.1)
def cL (own idx : Nat) : Option Int64 := ((cLA.getD own []).find? (fun q => q.1 == idx)).map (fun q => q.2.1)
def lk_row (own : Nat) (q : Nat × Nat × Nat × Nat) : Bool := match vCl[q.2.1]? with
  | some c => decide (q.2.2.1 < c.2.2) && (decide (lw_tbl[q.2.2.2]? = some (Cond.fieldLink (kR own) q.1 (c.2.1 q.2.2.1).1 (c.2.1 q.2.2.1).2.1 (c.2.1 q.2.2.1).2.2.1)) && goodWord (Cond.fieldLink (kR own) q.1 (c.2.1 q.2.2.1).1 (c.2.1 q.2.2.1).2.1 (c.2.1 q.2.2.1).2.2.1))
  | none => false
set_option maxRecDepth 100000 in
theorem lk_all : (lkA.zipIdx).all (fun z => z.1.all (fun q => lk_row z.2 q)) = true := by decide +kernel
def cI_row (own : Nat) (q : Nat × Int32 × Nat) : Bool := decide (lw_tbl[q.2.2]? = some (Cond.constant (kR own) q.1 q.2.1)) && goodWord (Cond.constant (kR own) q.1 q.2.1)
set_option maxRecDepth 100000 in
theorem cI_all : (cIA.zipIdx).all (fun z => z.1.all (fun q => cI_row z.2 q)) = true := by decide +kernel
def cL_row (own : Nat) (q : Nat × Int64 × Nat) : Bool := decide (lw_tbl[q.2.2]? = some (Cond.constantLong (kR own) q.1 q.2.1)) && goodWord (Cond.constantLong (kR own) q.1 q.2.1)
set_option maxRecDepth 100000 in
theorem cL_all : (cLA.zipIdx).all (fun z => z.1.all (fun q => cL_row z.2 q)) = true := by decide +kernel
theorem tb_row {α : Type} {A : List (List α)} {f : Nat → α → Bool} (h : (A.zipIdx).all (fun z => z.1.all (fun q => f z.2 q)) = true) {own : Nat} {q : α} {g : α → Bool} (hq : (A.getD own []).find? g = some q) : f own q = true ∧ g q = true := by
  have h1 := List.mem_of_find?_eq_some hq
  refine ⟨?_, List.find?_some hq⟩
  rw [List.getD_eq_getElem?_getD] at h1
  cases hA : A[own]? with
  | none => rw [hA] at h1; cases h1
  | some l =>
    rw [hA] at h1
    have h2 := List.all_eq_true.mp h (l, own) (by rw [List.mem_zipIdx_iff_getElem?]; exact hA)
    exact List.all_eq_true.mp h2 q h1
theorem lk_ok {own idx ci k : Nat} (h : lk own idx = some (ci, k)) : ∃ c : vw_C, vCl[ci]? = some c ∧ k < c.2.2 ∧ Cond.fieldLink (kR own) idx (c.2.1 k).1 (c.2.1 k).2.1 (c.2.1 k).2.2.1 ∈ gws := by
  unfold lk at h
  cases hf : (lkA.getD own []).find? (fun q => q.1 == idx) with
  | none => rw [hf] at h; cases h
  | some q =>
    obtain ⟨i, c0, k0, p0⟩ := q
    rw [hf] at h
    simp only [Option.map_some, Option.some.injEq, Prod.mk.injEq] at h
    obtain ⟨rfl, rfl⟩ := h
    obtain ⟨h1, h2⟩ := tb_row lk_all hf
    have h3 : i = idx := by simpa using h2
    subst h3
    unfold lk_row at h1
    cases hc : vCl[c0]? with
    | none => simp only [hc] at h1; cases h1
    | some c =>
      simp only [hc, Bool.and_eq_true, decide_eq_true_eq] at h1
      exact ⟨c, rfl, h1.1, gw_mem h1.2.1 h1.2.2⟩
theorem cI_ok {own idx : Nat} {v : Int32} (h : cI own idx = some v) : Cond.constant (kR own) idx v ∈ gws := by
  unfold cI at h
  cases hf : (cIA.getD own []).find? (fun q => q.1 == idx) with
  | none => rw [hf] at h; cases h
  | some q =>
    obtain ⟨i, v0, p0⟩ := q
    rw [hf] at h
    simp only [Option.map_some, Option.some.injEq] at h
    subst h
    obtain ⟨h1, h2⟩ := tb_row cI_all hf
    have h3 : i = idx := by simpa using h2
    subst h3
    simp only [cI_row, Bool.and_eq_true, decide_eq_true_eq] at h1
    exact gw_mem h1.1 h1.2
theorem cL_ok {own idx : Nat} {v : Int64} (h : cL own idx = some v) : Cond.constantLong (kR own) idx v ∈ gws := by
  unfold cL at h
  cases hf : (cLA.getD own []).find? (fun q => q.1 == idx) with
  | none => rw [hf] at h; cases h
  | some q =>
    obtain ⟨i, v0, p0⟩ := q
    rw [hf] at h
    simp only [Option.map_some, Option.some.injEq] at h
    subst h
    obtain ⟨h1, h2⟩ := tb_row cL_all hf
    have h3 : i = idx := by simpa using h2
    subst h3
    simp only [cL_row, Bool.and_eq_true, decide_eq_true_eq] at h1
    exact gw_mem h1.1 h1.2
