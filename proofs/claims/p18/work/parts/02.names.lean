def RX0 : String := "OverAndBack$Box"
def TX0 : u_T := fun k => match k with
  | 0 => ("OverAndBack$Box", "whole", "[I", true)
  | 1 => ("OverAndBack$Box", "late", "[I", true)
  | 2 => ("OverAndBack$Box", "holders", "[I", true)
  | 3 => ("OverAndBack$Box", "bestHolders", "[I", true)
  | 4 => ("OverAndBack$Box", "worth", "[I", true)
  | 5 => ("OverAndBack$Box", "bestWorth", "[I", true)
  | 6 => ("OverAndBack$Box", "turns", "I", false)
  | 7 => ("OverAndBack$Box", "least", "I", false)
  | _ => ("OverAndBack$Box", "shared", "Z", false)
def tyX0 : Nat → FieldType := fun k => match k with
  | 0 => .array .int
  | 1 => .array .int
  | 2 => .array .int
  | 3 => .array .int
  | 4 => .array .int
  | 5 => .array .int
  | 6 => .int
  | 7 => .int
  | _ => .boolean
theorem nmX0 : ∀ a, a < 9 → ∀ b, b < 9 → a ≠ b → (TX0 a).2.1 ≠ (TX0 b).2.1 := by decide +kernel
theorem tyX0_ok : ∀ k, k < 9 → parseFieldDescriptor (TX0 k).2.2.1 = some (tyX0 k) := by decide +kernel

def RX1 : String := "OverAndBack$Evening"
def TX1 : u_T := fun k => match k with
  | 0 => ("OverAndBack$Evening", "stations", "LOverAndBack$Rows;", true)
  | 1 => ("OverAndBack$Evening", "scenes", "LOverAndBack$Rows;", true)
  | 2 => ("OverAndBack$Evening", "breaks", "LOverAndBack$Rows;", true)
  | 3 => ("OverAndBack$Evening", "chances", "LOverAndBack$Rows;", true)
  | 4 => ("OverAndBack$Evening", "rules", "LOverAndBack$Rows;", true)
  | 5 => ("OverAndBack$Evening", "watchers", "LOverAndBack$Rows;", true)
  | 6 => ("OverAndBack$Evening", "minutes", "I", false)
  | _ => ("OverAndBack$Evening", "going", "I", false)
def tyX1 : Nat → FieldType := fun k => match k with
  | 0 => .object "OverAndBack$Rows"
  | 1 => .object "OverAndBack$Rows"
  | 2 => .object "OverAndBack$Rows"
  | 3 => .object "OverAndBack$Rows"
  | 4 => .object "OverAndBack$Rows"
  | 5 => .object "OverAndBack$Rows"
  | 6 => .int
  | _ => .int
theorem nmX1 : ∀ a, a < 8 → ∀ b, b < 8 → a ≠ b → (TX1 a).2.1 ≠ (TX1 b).2.1 := by decide +kernel
theorem tyX1_ok : ∀ k, k < 8 → parseFieldDescriptor (TX1 k).2.2.1 = some (tyX1 k) := by decide +kernel

def RX2 : String := "OverAndBack$Facts"
def TX2 : u_T := fun k => match k with
  | _ => ("OverAndBack$Facts", "closed", "[I", true)
def tyX2 : Nat → FieldType := fun k => match k with
  | _ => .array .int
theorem nmX2 : ∀ a, a < 1 → ∀ b, b < 1 → a ≠ b → (TX2 a).2.1 ≠ (TX2 b).2.1 := by decide +kernel
theorem tyX2_ok : ∀ k, k < 1 → parseFieldDescriptor (TX2 k).2.2.1 = some (tyX2 k) := by decide +kernel

def RX3 : String := "OverAndBack$Learning"
def TX3 : u_T := fun k => match k with
  | 0 => ("OverAndBack$Learning", "fewest", "[I", true)
  | 1 => ("OverAndBack$Learning", "screen", "LOverAndBack$Screen;", true)
  | 2 => ("OverAndBack$Learning", "facts", "LOverAndBack$Facts;", true)
  | 3 => ("OverAndBack$Learning", "stations", "I", false)
  | 4 => ("OverAndBack$Learning", "going", "I", false)
  | 5 => ("OverAndBack$Learning", "allTold", "I", false)
  | 6 => ("OverAndBack$Learning", "end", "I", false)
  | 7 => ("OverAndBack$Learning", "fewestGoings", "I", false)
  | 8 => ("OverAndBack$Learning", "minutesByFewest", "I", false)
  | 9 => ("OverAndBack$Learning", "minutesByAny", "I", false)
  | _ => ("OverAndBack$Learning", "goingsToBeat", "I", false)
def tyX3 : Nat → FieldType := fun k => match k with
  | 0 => .array .int
  | 1 => .object "OverAndBack$Screen"
  | 2 => .object "OverAndBack$Facts"
  | 3 => .int
  | 4 => .int
  | 5 => .int
  | 6 => .int
  | 7 => .int
  | 8 => .int
  | 9 => .int
  | _ => .int
theorem nmX3 : ∀ a, a < 11 → ∀ b, b < 11 → a ≠ b → (TX3 a).2.1 ≠ (TX3 b).2.1 := by decide +kernel
theorem tyX3_ok : ∀ k, k < 11 → parseFieldDescriptor (TX3 k).2.2.1 = some (tyX3 k) := by decide +kernel

def RX4 : String := "OverAndBack$Past"
def TX4 : u_T := fun k => match k with
  | 0 => ("OverAndBack$Past", "changes", "[I", true)
  | _ => ("OverAndBack$Past", "size", "I", false)
def tyX4 : Nat → FieldType := fun k => match k with
  | 0 => .array .int
  | _ => .int
theorem nmX4 : ∀ a, a < 2 → ∀ b, b < 2 → a ≠ b → (TX4 a).2.1 ≠ (TX4 b).2.1 := by decide +kernel
theorem tyX4_ok : ∀ k, k < 2 → parseFieldDescriptor (TX4 k).2.2.1 = some (tyX4 k) := by decide +kernel

def RX5 : String := "OverAndBack$Plan"
def TX5 : u_T := fun k => match k with
  | 0 => ("OverAndBack$Plan", "minutes", "[I", true)
  | 1 => ("OverAndBack$Plan", "stations", "[I", true)
  | 2 => ("OverAndBack$Plan", "size", "I", false)
  | _ => ("OverAndBack$Plan", "start", "I", false)
def tyX5 : Nat → FieldType := fun k => match k with
  | 0 => .array .int
  | 1 => .array .int
  | 2 => .int
  | _ => .int
theorem nmX5 : ∀ a, a < 4 → ∀ b, b < 4 → a ≠ b → (TX5 a).2.1 ≠ (TX5 b).2.1 := by decide +kernel
theorem tyX5_ok : ∀ k, k < 4 → parseFieldDescriptor (TX5 k).2.2.1 = some (tyX5 k) := by decide +kernel

def RX6 : String := "OverAndBack$Reader"
def TX6 : u_T := fun k => match k with
  | 0 => ("OverAndBack$Reader", "number", "[I", true)
  | _ => ("OverAndBack$Reader", "numbers", "I", false)
def tyX6 : Nat → FieldType := fun k => match k with
  | 0 => .array .int
  | _ => .int
theorem nmX6 : ∀ a, a < 2 → ∀ b, b < 2 → a ≠ b → (TX6 a).2.1 ≠ (TX6 b).2.1 := by decide +kernel
theorem tyX6_ok : ∀ k, k < 2 → parseFieldDescriptor (TX6 k).2.2.1 = some (tyX6 k) := by decide +kernel

def RX7 : String := "OverAndBack$Routes"
def TX7 : u_T := fun k => match k with
  | 0 => ("OverAndBack$Routes", "greatest", "[I", true)
  | 1 => ("OverAndBack$Routes", "minutes", "I", false)
  | 2 => ("OverAndBack$Routes", "firstMinute", "I", false)
  | _ => ("OverAndBack$Routes", "firstStation", "I", false)
def tyX7 : Nat → FieldType := fun k => match k with
  | 0 => .array .int
  | 1 => .int
  | 2 => .int
  | _ => .int
theorem nmX7 : ∀ a, a < 4 → ∀ b, b < 4 → a ≠ b → (TX7 a).2.1 ≠ (TX7 b).2.1 := by decide +kernel
theorem tyX7_ok : ∀ k, k < 4 → parseFieldDescriptor (TX7 k).2.2.1 = some (tyX7 k) := by decide +kernel

def RX8 : String := "OverAndBack$Rows"
def TX8 : u_T := fun k => match k with
  | 0 => ("OverAndBack$Rows", "cells", "[I", true)
  | 1 => ("OverAndBack$Rows", "width", "I", true)
  | 2 => ("OverAndBack$Rows", "limit", "I", true)
  | _ => ("OverAndBack$Rows", "size", "I", false)
def tyX8 : Nat → FieldType := fun k => match k with
  | 0 => .array .int
  | 1 => .int
  | 2 => .int
  | _ => .int
theorem nmX8 : ∀ a, a < 4 → ∀ b, b < 4 → a ≠ b → (TX8 a).2.1 ≠ (TX8 b).2.1 := by decide +kernel
theorem tyX8_ok : ∀ k, k < 4 → parseFieldDescriptor (TX8 k).2.2.1 = some (tyX8 k) := by decide +kernel

def RX9 : String := "OverAndBack$Screen"
def TX9 : u_T := fun k => match k with
  | 0 => ("OverAndBack$Screen", "worth", "[I", true)
  | 1 => ("OverAndBack$Screen", "fact", "[I", true)
  | _ => ("OverAndBack$Screen", "broken", "[I", true)
def tyX9 : Nat → FieldType := fun k => match k with
  | 0 => .array .int
  | 1 => .array .int
  | _ => .array .int
theorem nmX9 : ∀ a, a < 3 → ∀ b, b < 3 → a ≠ b → (TX9 a).2.1 ≠ (TX9 b).2.1 := by decide +kernel
theorem tyX9_ok : ∀ k, k < 3 → parseFieldDescriptor (TX9 k).2.2.1 = some (tyX9 k) := by decide +kernel

def RX10 : String := "OverAndBack$Walk"
def TX10 : u_T := fun k => match k with
  | 0 => ("OverAndBack$Walk", "place", "[I", true)
  | 1 => ("OverAndBack$Walk", "goal", "[I", true)
  | 2 => ("OverAndBack$Walk", "here", "I", false)
  | 3 => ("OverAndBack$Walk", "freeFrom", "I", false)
  | 4 => ("OverAndBack$Walk", "worth", "I", false)
  | 5 => ("OverAndBack$Walk", "seen", "I", false)
  | _ => ("OverAndBack$Walk", "goings", "I", false)
def tyX10 : Nat → FieldType := fun k => match k with
  | 0 => .array .int
  | 1 => .array .int
  | 2 => .int
  | 3 => .int
  | 4 => .int
  | 5 => .int
  | _ => .int
theorem nmX10 : ∀ a, a < 7 → ∀ b, b < 7 → a ≠ b → (TX10 a).2.1 ≠ (TX10 b).2.1 := by decide +kernel
theorem tyX10_ok : ∀ k, k < 7 → parseFieldDescriptor (TX10 k).2.2.1 = some (tyX10 k) := by decide +kernel

def RX11 : String := "OverAndBack"
def TX11 : u_T := fun k => match k with
  | 0 => ("OverAndBack", "text", "[C", true)
  | 1 => ("OverAndBack", "length", "I", false)
  | 2 => ("OverAndBack", "reader", "LOverAndBack$Reader;", true)
  | 3 => ("OverAndBack", "evening", "LOverAndBack$Evening;", false)
  | 4 => ("OverAndBack", "spare", "LOverAndBack$Evening;", false)
  | 5 => ("OverAndBack", "facts", "LOverAndBack$Facts;", true)
  | 6 => ("OverAndBack", "screen", "LOverAndBack$Screen;", true)
  | 7 => ("OverAndBack", "trial", "LOverAndBack$Screen;", true)
  | 8 => ("OverAndBack", "walk", "LOverAndBack$Walk;", true)
  | 9 => ("OverAndBack", "routes", "LOverAndBack$Routes;", true)
  | 10 => ("OverAndBack", "learning", "LOverAndBack$Learning;", true)
  | 11 => ("OverAndBack", "box", "LOverAndBack$Box;", true)
  | 12 => ("OverAndBack", "thePlan", "LOverAndBack$Plan;", true)
  | 13 => ("OverAndBack", "past", "LOverAndBack$Past;", true)
  | 14 => ("OverAndBack", "firstKept", "LOverAndBack$Plan;", true)
  | 15 => ("OverAndBack", "secondKept", "LOverAndBack$Plan;", true)
  | _ => ("OverAndBack", "kept", "I", false)
def tyX11 : Nat → FieldType := fun k => match k with
  | 0 => .array .char
  | 1 => .int
  | 2 => .object "OverAndBack$Reader"
  | 3 => .object "OverAndBack$Evening"
  | 4 => .object "OverAndBack$Evening"
  | 5 => .object "OverAndBack$Facts"
  | 6 => .object "OverAndBack$Screen"
  | 7 => .object "OverAndBack$Screen"
  | 8 => .object "OverAndBack$Walk"
  | 9 => .object "OverAndBack$Routes"
  | 10 => .object "OverAndBack$Learning"
  | 11 => .object "OverAndBack$Box"
  | 12 => .object "OverAndBack$Plan"
  | 13 => .object "OverAndBack$Past"
  | 14 => .object "OverAndBack$Plan"
  | 15 => .object "OverAndBack$Plan"
  | _ => .int
theorem nmX11 : ∀ a, a < 17 → ∀ b, b < 17 → a ≠ b → (TX11 a).2.1 ≠ (TX11 b).2.1 := by decide +kernel
theorem tyX11_ok : ∀ k, k < 17 → parseFieldDescriptor (TX11 k).2.2.1 = some (tyX11 k) := by decide +kernel

def RX12 : String := "OverAndBackModel"
def TX12 : u_T := fun k => match k with
  | 0 => ("OverAndBackModel", "length", "I", false)
  | 1 => ("OverAndBackModel", "goes", "I", false)
  | 2 => ("OverAndBackModel", "stations", "I", false)
  | 3 => ("OverAndBackModel", "worth", "[I", true)
  | 4 => ("OverAndBackModel", "scenes", "I", false)
  | 5 => ("OverAndBackModel", "scene", "[I", true)
  | 6 => ("OverAndBackModel", "breaks", "I", false)
  | 7 => ("OverAndBackModel", "broken", "[I", true)
  | 8 => ("OverAndBackModel", "comings", "I", false)
  | 9 => ("OverAndBackModel", "coming", "[I", true)
  | 10 => ("OverAndBackModel", "rules", "I", false)
  | 11 => ("OverAndBackModel", "rule", "[I", true)
  | 12 => ("OverAndBackModel", "watchers", "I", false)
  | 13 => ("OverAndBackModel", "watcher", "[I", true)
  | 14 => ("OverAndBackModel", "text", "[I", true)
  | 15 => ("OverAndBackModel", "texted", "I", false)
  | 16 => ("OverAndBackModel", "at", "I", false)
  | 17 => ("OverAndBackModel", "told", "[I", true)
  | 18 => ("OverAndBackModel", "readLength", "I", false)
  | 19 => ("OverAndBackModel", "readGoes", "I", false)
  | 20 => ("OverAndBackModel", "readStations", "I", false)
  | 21 => ("OverAndBackModel", "readWorth", "[I", true)
  | 22 => ("OverAndBackModel", "readScenes", "I", false)
  | 23 => ("OverAndBackModel", "readScene", "[I", true)
  | 24 => ("OverAndBackModel", "readBreaks", "I", false)
  | 25 => ("OverAndBackModel", "readBroken", "[I", true)
  | 26 => ("OverAndBackModel", "readComings", "I", false)
  | 27 => ("OverAndBackModel", "readComing", "[I", true)
  | 28 => ("OverAndBackModel", "readRules", "I", false)
  | 29 => ("OverAndBackModel", "readRule", "[I", true)
  | 30 => ("OverAndBackModel", "readWatchers", "I", false)
  | 31 => ("OverAndBackModel", "readWatcher", "[I", true)
  | 32 => ("OverAndBackModel", "onWorth", "[I", true)
  | 33 => ("OverAndBackModel", "onFact", "[I", true)
  | 34 => ("OverAndBackModel", "onBreak", "[Z", true)
  | 35 => ("OverAndBackModel", "on", "[I", true)
  | 36 => ("OverAndBackModel", "saw", "I", false)
  | 37 => ("OverAndBackModel", "facts", "I", false)
  | 38 => ("OverAndBackModel", "went", "I", false)
  | 39 => ("OverAndBackModel", "from", "I", false)
  | 40 => ("OverAndBackModel", "goings", "I", false)
  | 41 => ("OverAndBackModel", "going", "[I", true)
  | 42 => ("OverAndBackModel", "acts", "I", false)
  | 43 => ("OverAndBackModel", "act", "[I", true)
  | 44 => ("OverAndBackModel", "firstWrong", "I", false)
  | 45 => ("OverAndBackModel", "goTo", "[I", true)
  | 46 => ("OverAndBackModel", "most", "[I", true)
  | 47 => ("OverAndBackModel", "few", "[I", true)
  | 48 => ("OverAndBackModel", "fewest", "I", false)
  | 49 => ("OverAndBackModel", "soonest", "I", false)
  | 50 => ("OverAndBackModel", "soonestAny", "I", false)
  | 51 => ("OverAndBackModel", "holder", "[I", true)
  | 52 => ("OverAndBackModel", "shown", "[I", true)
  | 53 => ("OverAndBackModel", "keeps", "I", false)
  | _ => ("OverAndBackModel", "kept", "[I", true)
def tyX12 : Nat → FieldType := fun k => match k with
  | 0 => .int
  | 1 => .int
  | 2 => .int
  | 3 => .array .int
  | 4 => .int
  | 5 => .array .int
  | 6 => .int
  | 7 => .array .int
  | 8 => .int
  | 9 => .array .int
  | 10 => .int
  | 11 => .array .int
  | 12 => .int
  | 13 => .array .int
  | 14 => .array .int
  | 15 => .int
  | 16 => .int
  | 17 => .array .int
  | 18 => .int
  | 19 => .int
  | 20 => .int
  | 21 => .array .int
  | 22 => .int
  | 23 => .array .int
  | 24 => .int
  | 25 => .array .int
  | 26 => .int
  | 27 => .array .int
  | 28 => .int
  | 29 => .array .int
  | 30 => .int
  | 31 => .array .int
  | 32 => .array .int
  | 33 => .array .int
  | 34 => .array .boolean
  | 35 => .array .int
  | 36 => .int
  | 37 => .int
  | 38 => .int
  | 39 => .int
  | 40 => .int
  | 41 => .array .int
  | 42 => .int
  | 43 => .array .int
  | 44 => .int
  | 45 => .array .int
  | 46 => .array .int
  | 47 => .array .int
  | 48 => .int
  | 49 => .int
  | 50 => .int
  | 51 => .array .int
  | 52 => .array .int
  | 53 => .int
  | _ => .array .int
theorem nmX12 : ∀ a, a < 55 → ∀ b, b < 55 → a ≠ b → (TX12 a).2.1 ≠ (TX12 b).2.1 := by decide +kernel
theorem tyX12_ok : ∀ k, k < 55 → parseFieldDescriptor (TX12 k).2.2.1 = some (tyX12 k) := by decide +kernel

def am_cls : List vw_C := [(RX0, TX0, 9), (RX1, TX1, 8), (RX2, TX2, 1), (RX3, TX3, 11), (RX4, TX4, 2), (RX5, TX5, 4), (RX6, TX6, 2), (RX7, TX7, 4), (RX8, TX8, 4), (RX9, TX9, 3), (RX10, TX10, 7), (RX11, TX11, 17), (RX12, TX12, 55)]

def am_isN : Cond → Bool
  | .fieldLinkNest _ _ _ _ _ _ => true
  | .methodLinkNest _ _ _ _ => true
  | _ => false
def am_nest : List Cond := tables_1.filter am_isN
def am_tbl : List Cond := lw_tbl.filter goodWord
theorem am_tbl_in {w : Cond} (h : w ∈ am_tbl) : w ∈ lw_tbl := (List.mem_filter.mp h).1
theorem am_tbl_good {w : Cond} (h : w ∈ am_tbl) : (w.onTables && w.keeps) = true ∨ ∃ ty, w = .arrayClass ty := good_of_word (List.mem_filter.mp h).2
theorem am_tbl_t {w : Cond} (h : w ∈ tables_1) (g : goodWord w = true) : w ∈ am_tbl := List.mem_filter.mpr ⟨List.mem_append_right _ h, g⟩
theorem am_tbl_s {w : Cond} (h : w ∈ k2_sels lw_privs) (g : goodWord w = true) : w ∈ am_tbl := List.mem_filter.mpr ⟨List.mem_append_left _ h, g⟩
theorem am_nest_t {w : Cond} (h : w ∈ tables_1) (g : am_isN w = true) : w ∈ am_nest := List.mem_filter.mpr ⟨h, g⟩
