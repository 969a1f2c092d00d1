/-! ===== printed by wip/whole/gen03.py: classes, fields, words, constants ===== -/
def gw : List Cond := lw_tbl.filter goodWord
theorem gw_of {w : Cond} (h : w ∈ lw_tbl) (hg : goodWord w = true) : w ∈ gw := List.mem_filter.mpr ⟨h, hg⟩
theorem gw_t {w : Cond} (i : Nat) (h : tables_1[i]? = some w) (hg : goodWord w = true) : w ∈ gw := gw_of (List.mem_append_right _ (List.mem_of_getElem? h)) hg
theorem gw_p {w : Cond} (i : Nat) (h : (k2_sels lw_privs)[i]? = some w) (hg : goodWord w = true) : w ∈ gw := gw_of (List.mem_append_left _ (List.mem_of_getElem? h)) hg
def ZR0 : String := "GooseCounty"
def ZT0 : u_T := fun k => match k with
  | 0 => ("GooseCounty", "now", "LGooseCounty$County;", true)
  | 1 => ("GooseCounty", "image", "LGooseCounty$County;", true)
  | 2 => ("GooseCounty", "thought", "LGooseCounty$County;", true)
  | 3 => ("GooseCounty", "reader", "LGooseCounty$Reader;", true)
  | 4 => ("GooseCounty", "sheets", "[LGooseCounty$Sheet;", true)
  | 5 => ("GooseCounty", "slots", "[LGooseCounty$Slot;", true)
  | 6 => ("GooseCounty", "waiting", "[I", true)
  | 7 => ("GooseCounty", "heldWith", "[I", true)
  | 8 => ("GooseCounty", "differences", "[I", true)
  | 9 => ("GooseCounty", "waits", "I", false)
  | _ => ("GooseCounty", "kept", "Z", false)
def Zt0 : Nat → FieldType := fun k => match k with
  | 0 => .object "GooseCounty$County"
  | 1 => .object "GooseCounty$County"
  | 2 => .object "GooseCounty$County"
  | 3 => .object "GooseCounty$Reader"
  | 4 => .array (.object "GooseCounty$Sheet")
  | 5 => .array (.object "GooseCounty$Slot")
  | 6 => .array .int
  | 7 => .array .int
  | 8 => .array .int
  | 9 => .int
  | _ => .boolean
theorem Zn0 : ∀ a, a < 11 → ∀ b, b < 11 → a ≠ b → (ZT0 a).2.1 ≠ (ZT0 b).2.1 := by decide +kernel
theorem Zk0 : ∀ k, k < 11 → parseFieldDescriptor (ZT0 k).2.2.1 = some (Zt0 k) := by decide +kernel
theorem Zw0 : ∀ w ∈ u_ws ZR0 ZT0 11, w ∈ lw_tbl := by decide +kernel
theorem Zg0 : ∀ w ∈ u_ws ZR0 ZT0 11, goodWord w = true := by decide +kernel
def ZR1 : String := "GooseCounty$County"
def ZT1 : u_T := fun k => match k with
  | 0 => ("GooseCounty$County", "geese", "[LGooseCounty$Goose;", true)
  | 1 => ("GooseCounty$County", "need", "[I", true)
  | 2 => ("GooseCounty$County", "laws", "[LGooseCounty$Law;", true)
  | 3 => ("GooseCounty$County", "counting", "[I", true)
  | 4 => ("GooseCounty$County", "tallyAt", "[I", true)
  | 5 => ("GooseCounty$County", "many", "I", false)
  | 6 => ("GooseCounty$County", "texts", "I", false)
  | 7 => ("GooseCounty$County", "eye", "I", false)
  | 8 => ("GooseCounty$County", "fox", "I", false)
  | 9 => ("GooseCounty$County", "held", "I", false)
  | 10 => ("GooseCounty$County", "broken", "I", false)
  | 11 => ("GooseCounty$County", "taken", "I", false)
  | 12 => ("GooseCounty$County", "day", "I", false)
  | _ => ("GooseCounty$County", "z", "I", false)
def Zt1 : Nat → FieldType := fun k => match k with
  | 0 => .array (.object "GooseCounty$Goose")
  | 1 => .array .int
  | 2 => .array (.object "GooseCounty$Law")
  | 3 => .array .int
  | 4 => .array .int
  | 5 => .int
  | 6 => .int
  | 7 => .int
  | 8 => .int
  | 9 => .int
  | 10 => .int
  | 11 => .int
  | 12 => .int
  | _ => .int
theorem Zn1 : ∀ a, a < 14 → ∀ b, b < 14 → a ≠ b → (ZT1 a).2.1 ≠ (ZT1 b).2.1 := by decide +kernel
theorem Zk1 : ∀ k, k < 14 → parseFieldDescriptor (ZT1 k).2.2.1 = some (Zt1 k) := by decide +kernel
theorem Zw1 : ∀ w ∈ u_ws ZR1 ZT1 14, w ∈ lw_tbl := by decide +kernel
theorem Zg1 : ∀ w ∈ u_ws ZR1 ZT1 14, goodWord w = true := by decide +kernel
def ZR2 : String := "GooseCounty$Goose"
def ZT2 : u_T := fun k => match k with
  | 0 => ("GooseCounty$Goose", "kind", "I", false)
  | 1 => ("GooseCounty$Goose", "sight", "I", false)
  | 2 => ("GooseCounty$Goose", "age", "I", false)
  | 3 => ("GooseCounty$Goose", "yard", "I", false)
  | _ => ("GooseCounty$Goose", "saw", "I", false)
def Zt2 : Nat → FieldType := fun k => match k with
  | 0 => .int
  | 1 => .int
  | 2 => .int
  | 3 => .int
  | _ => .int
theorem Zn2 : ∀ a, a < 5 → ∀ b, b < 5 → a ≠ b → (ZT2 a).2.1 ≠ (ZT2 b).2.1 := by decide +kernel
theorem Zk2 : ∀ k, k < 5 → parseFieldDescriptor (ZT2 k).2.2.1 = some (Zt2 k) := by decide +kernel
theorem Zw2 : ∀ w ∈ u_ws ZR2 ZT2 5, w ∈ lw_tbl := by decide +kernel
theorem Zg2 : ∀ w ∈ u_ws ZR2 ZT2 5, goodWord w = true := by decide +kernel
def ZR3 : String := "GooseCounty$Law"
def ZT3 : u_T := fun k => match k with
  | 0 => ("GooseCounty$Law", "key", "I", true)
  | 1 => ("GooseCounty$Law", "operands", "I", true)
  | 2 => ("GooseCounty$Law", "row", "[I", true)
  | _ => ("GooseCounty$Law", "stack", "[I", true)
def Zt3 : Nat → FieldType := fun k => match k with
  | 0 => .int
  | 1 => .int
  | 2 => .array .int
  | _ => .array .int
theorem Zn3 : ∀ a, a < 4 → ∀ b, b < 4 → a ≠ b → (ZT3 a).2.1 ≠ (ZT3 b).2.1 := by decide +kernel
theorem Zk3 : ∀ k, k < 4 → parseFieldDescriptor (ZT3 k).2.2.1 = some (Zt3 k) := by decide +kernel
theorem Zw3 : ∀ w ∈ u_ws ZR3 ZT3 4, w ∈ lw_tbl := by decide +kernel
theorem Zg3 : ∀ w ∈ u_ws ZR3 ZT3 4, goodWord w = true := by decide +kernel
def ZR4 : String := "GooseCounty$Reader"
def ZT4 : u_T := fun k => match k with
  | 0 => ("GooseCounty$Reader", "tape", "[I", true)
  | 1 => ("GooseCounty$Reader", "row", "[I", true)
  | 2 => ("GooseCounty$Reader", "length", "I", false)
  | 3 => ("GooseCounty$Reader", "start", "I", false)
  | 4 => ("GooseCounty$Reader", "end", "I", false)
  | 5 => ("GooseCounty$Reader", "sort", "I", false)
  | 6 => ("GooseCounty$Reader", "size", "I", false)
  | 7 => ("GooseCounty$Reader", "operands", "I", false)
  | _ => ("GooseCounty$Reader", "key", "I", false)
def Zt4 : Nat → FieldType := fun k => match k with
  | 0 => .array .int
  | 1 => .array .int
  | 2 => .int
  | 3 => .int
  | 4 => .int
  | 5 => .int
  | 6 => .int
  | 7 => .int
  | _ => .int
theorem Zn4 : ∀ a, a < 9 → ∀ b, b < 9 → a ≠ b → (ZT4 a).2.1 ≠ (ZT4 b).2.1 := by decide +kernel
theorem Zk4 : ∀ k, k < 9 → parseFieldDescriptor (ZT4 k).2.2.1 = some (Zt4 k) := by decide +kernel
theorem Zw4 : ∀ w ∈ u_ws ZR4 ZT4 9, w ∈ lw_tbl := by decide +kernel
theorem Zg4 : ∀ w ∈ u_ws ZR4 ZT4 9, goodWord w = true := by decide +kernel
def ZR5 : String := "GooseCounty$Sheet"
def ZT5 : u_T := fun k => match k with
  | 0 => ("GooseCounty$Sheet", "sort", "I", false)
  | 1 => ("GooseCounty$Sheet", "places", "I", false)
  | _ => ("GooseCounty$Sheet", "row", "[I", true)
def Zt5 : Nat → FieldType := fun k => match k with
  | 0 => .int
  | 1 => .int
  | _ => .array .int
theorem Zn5 : ∀ a, a < 3 → ∀ b, b < 3 → a ≠ b → (ZT5 a).2.1 ≠ (ZT5 b).2.1 := by decide +kernel
theorem Zk5 : ∀ k, k < 3 → parseFieldDescriptor (ZT5 k).2.2.1 = some (Zt5 k) := by decide +kernel
theorem Zw5 : ∀ w ∈ u_ws ZR5 ZT5 3, w ∈ lw_tbl := by decide +kernel
theorem Zg5 : ∀ w ∈ u_ws ZR5 ZT5 3, goodWord w = true := by decide +kernel
def ZR6 : String := "GooseCounty$Slot"
def ZT6 : u_T := fun k => match k with
  | 0 => ("GooseCounty$Slot", "thing", "I", false)
  | 1 => ("GooseCounty$Slot", "number", "I", false)
  | 2 => ("GooseCounty$Slot", "goose", "LGooseCounty$Goose;", true)
  | _ => ("GooseCounty$Slot", "sheet", "LGooseCounty$Sheet;", true)
def Zt6 : Nat → FieldType := fun k => match k with
  | 0 => .int
  | 1 => .int
  | 2 => .object "GooseCounty$Goose"
  | _ => .object "GooseCounty$Sheet"
theorem Zn6 : ∀ a, a < 4 → ∀ b, b < 4 → a ≠ b → (ZT6 a).2.1 ≠ (ZT6 b).2.1 := by decide +kernel
theorem Zk6 : ∀ k, k < 4 → parseFieldDescriptor (ZT6 k).2.2.1 = some (Zt6 k) := by decide +kernel
theorem Zw6 : ∀ w ∈ u_ws ZR6 ZT6 4, w ∈ lw_tbl := by decide +kernel
theorem Zg6 : ∀ w ∈ u_ws ZR6 ZT6 4, goodWord w = true := by decide +kernel
def ZR7 : String := "GooseCountyModel"
def ZT7 : u_T := fun k => match k with
  | 0 => ("GooseCountyModel", "s", "[I", true)
  | 1 => ("GooseCountyModel", "kept", "[I", true)
  | 2 => ("GooseCountyModel", "aside", "[I", true)
  | 3 => ("GooseCountyModel", "waiting", "[I", true)
  | 4 => ("GooseCountyModel", "stack", "[I", true)
  | 5 => ("GooseCountyModel", "names", "[I", true)
  | 6 => ("GooseCountyModel", "isKept", "Z", false)
  | 7 => ("GooseCountyModel", "waitingMany", "I", false)
  | 8 => ("GooseCountyModel", "apart", "[I", true)
  | 9 => ("GooseCountyModel", "tape", "[I", true)
  | 10 => ("GooseCountyModel", "code", "[I", true)
  | 11 => ("GooseCountyModel", "taped", "I", false)
  | 12 => ("GooseCountyModel", "from", "I", false)
  | 13 => ("GooseCountyModel", "to", "I", false)
  | 14 => ("GooseCountyModel", "sort", "I", false)
  | 15 => ("GooseCountyModel", "written", "I", false)
  | 16 => ("GooseCountyModel", "pieces", "I", false)
  | 17 => ("GooseCountyModel", "opened", "I", false)
  | 18 => ("GooseCountyModel", "turned", "I", false)
  | 19 => ("GooseCountyModel", "key", "I", false)
  | 20 => ("GooseCountyModel", "isWrong", "Z", false)
  | 21 => ("GooseCountyModel", "sortOf", "[I", true)
  | 22 => ("GooseCountyModel", "sizeOf", "[I", true)
  | 23 => ("GooseCountyModel", "numbers", "[I", true)
  | 24 => ("GooseCountyModel", "moved", "[I", true)
  | 25 => ("GooseCountyModel", "thing", "[I", true)
  | 26 => ("GooseCountyModel", "number", "[I", true)
  | 27 => ("GooseCountyModel", "goose", "[I", true)
  | _ => ("GooseCountyModel", "whole", "[I", true)
def Zt7 : Nat → FieldType := fun k => match k with
  | 0 => .array .int
  | 1 => .array .int
  | 2 => .array .int
  | 3 => .array .int
  | 4 => .array .int
  | 5 => .array .int
  | 6 => .boolean
  | 7 => .int
  | 8 => .array .int
  | 9 => .array .int
  | 10 => .array .int
  | 11 => .int
  | 12 => .int
  | 13 => .int
  | 14 => .int
  | 15 => .int
  | 16 => .int
  | 17 => .int
  | 18 => .int
  | 19 => .int
  | 20 => .boolean
  | 21 => .array .int
  | 22 => .array .int
  | 23 => .array .int
  | 24 => .array .int
  | 25 => .array .int
  | 26 => .array .int
  | 27 => .array .int
  | _ => .array .int
theorem Zn7 : ∀ a, a < 29 → ∀ b, b < 29 → a ≠ b → (ZT7 a).2.1 ≠ (ZT7 b).2.1 := by decide +kernel
theorem Zk7 : ∀ k, k < 29 → parseFieldDescriptor (ZT7 k).2.2.1 = some (Zt7 k) := by decide +kernel
theorem Zw7 : ∀ w ∈ u_ws ZR7 ZT7 29, w ∈ lw_tbl := by decide +kernel
theorem Zg7 : ∀ w ∈ u_ws ZR7 ZT7 29, goodWord w = true := by decide +kernel
def clz : List vw_C := [(ZR0, ZT0, 11), (ZR1, ZT1, 14), (ZR2, ZT2, 5), (ZR3, ZT3, 4), (ZR4, ZT4, 9), (ZR5, ZT5, 3), (ZR6, ZT6, 4), (ZR7, ZT7, 29)]
def clt : List (Nat → FieldType) := [Zt0, Zt1, Zt2, Zt3, Zt4, Zt5, Zt6, Zt7]
/-- a class of the list: its fields' words, types and names -/
def CLS (ci : Nat) (C : String) (T : u_T) (N : Nat) (ty : Nat → FieldType) : Prop := clz[ci]? = some (C, T, N) ∧ (∀ w ∈ u_ws C T N, w ∈ gw) ∧ (∀ k, k < N → parseFieldDescriptor (T k).2.2.1 = some (ty k)) ∧ ∀ a, a < N → ∀ b, b < N → a ≠ b → (T a).2.1 ≠ (T b).2.1
theorem cls_0 : CLS 0 ZR0 ZT0 11 Zt0 := ⟨rfl, fun w h => gw_of (Zw0 w h) (Zg0 w h), Zk0, Zn0⟩
theorem cls_1 : CLS 1 ZR1 ZT1 14 Zt1 := ⟨rfl, fun w h => gw_of (Zw1 w h) (Zg1 w h), Zk1, Zn1⟩
theorem cls_2 : CLS 2 ZR2 ZT2 5 Zt2 := ⟨rfl, fun w h => gw_of (Zw2 w h) (Zg2 w h), Zk2, Zn2⟩
theorem cls_3 : CLS 3 ZR3 ZT3 4 Zt3 := ⟨rfl, fun w h => gw_of (Zw3 w h) (Zg3 w h), Zk3, Zn3⟩
theorem cls_4 : CLS 4 ZR4 ZT4 9 Zt4 := ⟨rfl, fun w h => gw_of (Zw4 w h) (Zg4 w h), Zk4, Zn4⟩
theorem cls_5 : CLS 5 ZR5 ZT5 3 Zt5 := ⟨rfl, fun w h => gw_of (Zw5 w h) (Zg5 w h), Zk5, Zn5⟩
theorem cls_6 : CLS 6 ZR6 ZT6 4 Zt6 := ⟨rfl, fun w h => gw_of (Zw6 w h) (Zg6 w h), Zk6, Zn6⟩
theorem cls_7 : CLS 7 ZR7 ZT7 29 Zt7 := ⟨rfl, fun w h => gw_of (Zw7 w h) (Zg7 w h), Zk7, Zn7⟩
/-- the classes of which there are rows -/
def aoL : List String := ["GooseCounty$Goose", "GooseCounty$Law", "GooseCounty$Sheet", "GooseCounty$Slot"]
def tys (g : GX) : List (ClassId × FieldType) := [(xaI g, .int), (xaR g 2, .object "GooseCounty$Goose"), (xaR g 3, .object "GooseCounty$Law"), (xaR g 5, .object "GooseCounty$Sheet"), (xaR g 6, .object "GooseCounty$Slot")]
def nestM : List (String × Nat × MethodName × String) := [("GooseCounty$County", 61, ⟨"GooseCounty$Goose", "<init>", "()V"⟩, "GooseCounty"), ("GooseCounty", 24, ⟨"GooseCounty$Reader", "<init>", "()V"⟩, "GooseCounty"), ("GooseCounty", 59, ⟨"GooseCounty$Sheet", "<init>", "()V"⟩, "GooseCounty"), ("GooseCounty", 60, ⟨"GooseCounty$Slot", "<init>", "()V"⟩, "GooseCounty"), ("GooseCounty$Slot", 20, ⟨"GooseCounty$Goose", "<init>", "()V"⟩, "GooseCounty"), ("GooseCounty$Slot", 27, ⟨"GooseCounty$Sheet", "<init>", "()V"⟩, "GooseCounty"), ("GooseCounty$County", 127, ⟨"GooseCounty", "within", "(III)I"⟩, "GooseCounty")]
def nestF : List (String × Nat × String × String × String × String) := [("GooseCounty$Goose", 27, "GooseCounty", "UNDER", "[I", "GooseCounty"), ("GooseCounty$Goose", 34, "GooseCounty", "WANDERS", "[I", "GooseCounty"), ("GooseCounty$Goose", 31, "GooseCounty", "TALLIES", "[I", "GooseCounty")]
def stT : List (String × List Int) := [("UNDER", [-1, 0, 0, 1, 2, 0]), ("TALLIES", [2, 1, 3, -2, 3, 4]), ("WANDERS", [0, 1, 0, 2, 3, 0]), ("MOST_OF_TRAIT", [5, 99, 99, 5, 9999])]
def srT : List (Nat × String) := [(78, "look"), (84, "fee"), (86, "fine"), (119, "gayn"), (121, "hb"), (123, "gs")]
def srL : List Nat := [4, 3, 4, 4, 2, 2]
def srB : List (List Int32) := [[108, 111, 111, 107], [102, 101, 101], [102, 105, 110, 101], [103, 97, 121, 110], [104, 98], [103, 115]]
