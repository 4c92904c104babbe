/-- the words that stay good over calls -/
def xG : List Cond := lw_tbl.filter goodWord
theorem xG_mem {w : Cond} (i : Nat) (h : lw_tbl[i]? = some w) (hg : goodWord w = true) : w ∈ xG := List.mem_filter.mpr ⟨List.mem_of_getElem? h, hg⟩
theorem xG_tbl {w : Cond} (h : w ∈ xG) : w ∈ lw_tbl := (List.mem_filter.mp h).1
theorem xG_good {w : Cond} (h : w ∈ xG) : goodWord w = true := (List.mem_filter.mp h).2
def R_Rp : String := "RegionPool"
def T_Rp : u_T := fun k => match k with
  | 0 => ("RegionPool", "memory", "LRegionPool$Memory;", true)
  | 1 => ("RegionPool", "collector", "LRegionPool$Collector;", true)
  | 2 => ("RegionPool", "parts", "LRegionPool$Parts;", true)
  | 3 => ("RegionPool", "likeness", "LRegionPool$Likeness;", true)
  | 4 => ("RegionPool", "liftedParts", "I", false)
  | _ => ("RegionPool", "copiedParts", "I", false)
def t_Rp : Nat → FieldType := fun k => match k with
  | 0 => .object "RegionPool$Memory"
  | 1 => .object "RegionPool$Collector"
  | 2 => .object "RegionPool$Parts"
  | 3 => .object "RegionPool$Likeness"
  | 4 => .int
  | _ => .int
theorem nm_Rp : ∀ a, a < 6 → ∀ b, b < 6 → a ≠ b → (T_Rp a).2.1 ≠ (T_Rp b).2.1 := by decide +kernel
theorem tk_Rp : ∀ k, k < 6 → parseFieldDescriptor (T_Rp k).2.2.1 = some (t_Rp k) := by decide +kernel
theorem in_Rp : ∀ w ∈ u_ws R_Rp T_Rp 6, w ∈ xG := by
  show ∀ w ∈ [u_lay R_Rp T_Rp 0, u_lay R_Rp T_Rp 1, u_lay R_Rp T_Rp 2, u_lay R_Rp T_Rp 3, u_lay R_Rp T_Rp 4, u_lay R_Rp T_Rp 5], w ∈ xG
  exact List.forall_mem_cons.mpr ⟨xG_mem 284 (by decide +kernel) (by decide +kernel), List.forall_mem_cons.mpr ⟨xG_mem 286 (by decide +kernel) (by decide +kernel), List.forall_mem_cons.mpr ⟨xG_mem 288 (by decide +kernel) (by decide +kernel), List.forall_mem_cons.mpr ⟨xG_mem 290 (by decide +kernel) (by decide +kernel), List.forall_mem_cons.mpr ⟨xG_mem 292 (by decide +kernel) (by decide +kernel), List.forall_mem_cons.mpr ⟨xG_mem 294 (by decide +kernel) (by decide +kernel), fun _ h => absurd h List.not_mem_nil⟩⟩⟩⟩⟩⟩
def R_Mem : String := "RegionPool$Memory"
def T_Mem : u_T := fun k => match k with
  | 0 => ("RegionPool$Memory", "roots", "LRegionPool$Values;", true)
  | 1 => ("RegionPool$Memory", "heap", "LRegionPool$Heap;", true)
  | 2 => ("RegionPool$Memory", "regions", "LRegionPool$Regions;", true)
  | 3 => ("RegionPool$Memory", "queue", "LRegionPool$Line;", true)
  | 4 => ("RegionPool$Memory", "watched", "LRegionPool$Line;", true)
  | _ => ("RegionPool$Memory", "newPlaces", "[I", true)
def t_Mem : Nat → FieldType := fun k => match k with
  | 0 => .object "RegionPool$Values"
  | 1 => .object "RegionPool$Heap"
  | 2 => .object "RegionPool$Regions"
  | 3 => .object "RegionPool$Line"
  | 4 => .object "RegionPool$Line"
  | _ => .array .int
theorem nm_Mem : ∀ a, a < 6 → ∀ b, b < 6 → a ≠ b → (T_Mem a).2.1 ≠ (T_Mem b).2.1 := by decide +kernel
theorem tk_Mem : ∀ k, k < 6 → parseFieldDescriptor (T_Mem k).2.2.1 = some (t_Mem k) := by decide +kernel
theorem in_Mem : ∀ w ∈ u_ws R_Mem T_Mem 6, w ∈ xG := by
  show ∀ w ∈ [u_lay R_Mem T_Mem 0, u_lay R_Mem T_Mem 1, u_lay R_Mem T_Mem 2, u_lay R_Mem T_Mem 3, u_lay R_Mem T_Mem 4, u_lay R_Mem T_Mem 5], w ∈ xG
  exact List.forall_mem_cons.mpr ⟨xG_mem 182 (by decide +kernel) (by decide +kernel), List.forall_mem_cons.mpr ⟨xG_mem 184 (by decide +kernel) (by decide +kernel), List.forall_mem_cons.mpr ⟨xG_mem 186 (by decide +kernel) (by decide +kernel), List.forall_mem_cons.mpr ⟨xG_mem 188 (by decide +kernel) (by decide +kernel), List.forall_mem_cons.mpr ⟨xG_mem 190 (by decide +kernel) (by decide +kernel), List.forall_mem_cons.mpr ⟨xG_mem 192 (by decide +kernel) (by decide +kernel), fun _ h => absurd h List.not_mem_nil⟩⟩⟩⟩⟩⟩
def R_Col : String := "RegionPool$Collector"
def T_Col : u_T := fun k => match k with
  | 0 => ("RegionPool$Collector", "memory", "LRegionPool$Memory;", true)
  | 1 => ("RegionPool$Collector", "marker", "LRegionPool$Marker;", true)
  | 2 => ("RegionPool$Collector", "collections", "I", false)
  | 3 => ("RegionPool$Collector", "gone", "I", false)
  | _ => ("RegionPool$Collector", "moved", "I", false)
def t_Col : Nat → FieldType := fun k => match k with
  | 0 => .object "RegionPool$Memory"
  | 1 => .object "RegionPool$Marker"
  | 2 => .int
  | 3 => .int
  | _ => .int
theorem nm_Col : ∀ a, a < 5 → ∀ b, b < 5 → a ≠ b → (T_Col a).2.1 ≠ (T_Col b).2.1 := by decide +kernel
theorem tk_Col : ∀ k, k < 5 → parseFieldDescriptor (T_Col k).2.2.1 = some (t_Col k) := by decide +kernel
theorem in_Col : ∀ w ∈ u_ws R_Col T_Col 5, w ∈ xG := by
  show ∀ w ∈ [u_lay R_Col T_Col 0, u_lay R_Col T_Col 1, u_lay R_Col T_Col 2, u_lay R_Col T_Col 3, u_lay R_Col T_Col 4], w ∈ xG
  exact List.forall_mem_cons.mpr ⟨xG_mem 226 (by decide +kernel) (by decide +kernel), List.forall_mem_cons.mpr ⟨xG_mem 228 (by decide +kernel) (by decide +kernel), List.forall_mem_cons.mpr ⟨xG_mem 230 (by decide +kernel) (by decide +kernel), List.forall_mem_cons.mpr ⟨xG_mem 232 (by decide +kernel) (by decide +kernel), List.forall_mem_cons.mpr ⟨xG_mem 234 (by decide +kernel) (by decide +kernel), fun _ h => absurd h List.not_mem_nil⟩⟩⟩⟩⟩
def R_Par : String := "RegionPool$Parts"
def T_Par : u_T := fun k => match k with
  | 0 => ("RegionPool$Parts", "memory", "LRegionPool$Memory;", true)
  | 1 => ("RegionPool$Parts", "items", "[I", true)
  | 2 => ("RegionPool$Parts", "isPart", "[Z", true)
  | _ => ("RegionPool$Parts", "length", "I", false)
def t_Par : Nat → FieldType := fun k => match k with
  | 0 => .object "RegionPool$Memory"
  | 1 => .array .int
  | 2 => .array .boolean
  | _ => .int
theorem nm_Par : ∀ a, a < 4 → ∀ b, b < 4 → a ≠ b → (T_Par a).2.1 ≠ (T_Par b).2.1 := by decide +kernel
theorem tk_Par : ∀ k, k < 4 → parseFieldDescriptor (T_Par k).2.2.1 = some (t_Par k) := by decide +kernel
theorem in_Par : ∀ w ∈ u_ws R_Par T_Par 4, w ∈ xG := by
  show ∀ w ∈ [u_lay R_Par T_Par 0, u_lay R_Par T_Par 1, u_lay R_Par T_Par 2, u_lay R_Par T_Par 3], w ∈ xG
  exact List.forall_mem_cons.mpr ⟨xG_mem 247 (by decide +kernel) (by decide +kernel), List.forall_mem_cons.mpr ⟨xG_mem 249 (by decide +kernel) (by decide +kernel), List.forall_mem_cons.mpr ⟨xG_mem 251 (by decide +kernel) (by decide +kernel), List.forall_mem_cons.mpr ⟨xG_mem 253 (by decide +kernel) (by decide +kernel), fun _ h => absurd h List.not_mem_nil⟩⟩⟩⟩
def R_Lik : String := "RegionPool$Likeness"
def T_Lik : u_T := fun k => match k with
  | 0 => ("RegionPool$Likeness", "heap", "LRegionPool$Heap;", true)
  | 1 => ("RegionPool$Likeness", "leaders", "[I", true)
  | 2 => ("RegionPool$Likeness", "lefts", "[I", true)
  | 3 => ("RegionPool$Likeness", "rights", "[I", true)
  | _ => ("RegionPool$Likeness", "pairs", "I", false)
def t_Lik : Nat → FieldType := fun k => match k with
  | 0 => .object "RegionPool$Heap"
  | 1 => .array .int
  | 2 => .array .int
  | 3 => .array .int
  | _ => .int
theorem nm_Lik : ∀ a, a < 5 → ∀ b, b < 5 → a ≠ b → (T_Lik a).2.1 ≠ (T_Lik b).2.1 := by decide +kernel
theorem tk_Lik : ∀ k, k < 5 → parseFieldDescriptor (T_Lik k).2.2.1 = some (t_Lik k) := by decide +kernel
theorem in_Lik : ∀ w ∈ u_ws R_Lik T_Lik 5, w ∈ xG := by
  show ∀ w ∈ [u_lay R_Lik T_Lik 0, u_lay R_Lik T_Lik 1, u_lay R_Lik T_Lik 2, u_lay R_Lik T_Lik 3, u_lay R_Lik T_Lik 4], w ∈ xG
  exact List.forall_mem_cons.mpr ⟨xG_mem 267 (by decide +kernel) (by decide +kernel), List.forall_mem_cons.mpr ⟨xG_mem 269 (by decide +kernel) (by decide +kernel), List.forall_mem_cons.mpr ⟨xG_mem 271 (by decide +kernel) (by decide +kernel), List.forall_mem_cons.mpr ⟨xG_mem 273 (by decide +kernel) (by decide +kernel), List.forall_mem_cons.mpr ⟨xG_mem 275 (by decide +kernel) (by decide +kernel), fun _ h => absurd h List.not_mem_nil⟩⟩⟩⟩⟩
def R_Val : String := "RegionPool$Values"
def T_Val : u_T := fun k => match k with
  | 0 => ("RegionPool$Values", "sorts", "[I", true)
  | _ => ("RegionPool$Values", "contents", "[I", true)
def t_Val : Nat → FieldType := fun k => match k with
  | 0 => .array .int
  | _ => .array .int
theorem nm_Val : ∀ a, a < 2 → ∀ b, b < 2 → a ≠ b → (T_Val a).2.1 ≠ (T_Val b).2.1 := by decide +kernel
theorem tk_Val : ∀ k, k < 2 → parseFieldDescriptor (T_Val k).2.2.1 = some (t_Val k) := by decide +kernel
theorem in_Val : ∀ w ∈ u_ws R_Val T_Val 2, w ∈ xG := by
  show ∀ w ∈ [u_lay R_Val T_Val 0, u_lay R_Val T_Val 1], w ∈ xG
  exact List.forall_mem_cons.mpr ⟨xG_mem 95 (by decide +kernel) (by decide +kernel), List.forall_mem_cons.mpr ⟨xG_mem 97 (by decide +kernel) (by decide +kernel), fun _ h => absurd h List.not_mem_nil⟩⟩
def R_Hea : String := "RegionPool$Heap"
def T_Hea : u_T := fun k => match k with
  | _ => ("RegionPool$Heap", "cells", "LRegionPool$Values;", true)
def t_Hea : Nat → FieldType := fun k => match k with
  | _ => .object "RegionPool$Values"
theorem nm_Hea : ∀ a, a < 1 → ∀ b, b < 1 → a ≠ b → (T_Hea a).2.1 ≠ (T_Hea b).2.1 := by decide +kernel
theorem tk_Hea : ∀ k, k < 1 → parseFieldDescriptor (T_Hea k).2.2.1 = some (t_Hea k) := by decide +kernel
theorem in_Hea : ∀ w ∈ u_ws R_Hea T_Hea 1, w ∈ xG := by
  show ∀ w ∈ [u_lay R_Hea T_Hea 0], w ∈ xG
  exact List.forall_mem_cons.mpr ⟨xG_mem 119 (by decide +kernel) (by decide +kernel), fun _ h => absurd h List.not_mem_nil⟩
def R_Reg : String := "RegionPool$Regions"
def T_Reg : u_T := fun k => match k with
  | 0 => ("RegionPool$Regions", "owners", "[I", true)
  | 1 => ("RegionPool$Regions", "rows", "[[I", true)
  | 2 => ("RegionPool$Regions", "lengths", "[I", true)
  | 3 => ("RegionPool$Regions", "fills", "[I", true)
  | _ => ("RegionPool$Regions", "regions", "I", false)
def t_Reg : Nat → FieldType := fun k => match k with
  | 0 => .array .int
  | 1 => .array (.array .int)
  | 2 => .array .int
  | 3 => .array .int
  | _ => .int
theorem nm_Reg : ∀ a, a < 5 → ∀ b, b < 5 → a ≠ b → (T_Reg a).2.1 ≠ (T_Reg b).2.1 := by decide +kernel
theorem tk_Reg : ∀ k, k < 5 → parseFieldDescriptor (T_Reg k).2.2.1 = some (t_Reg k) := by decide +kernel
theorem in_Reg : ∀ w ∈ u_ws R_Reg T_Reg 5, w ∈ xG := by
  show ∀ w ∈ [u_lay R_Reg T_Reg 0, u_lay R_Reg T_Reg 1, u_lay R_Reg T_Reg 2, u_lay R_Reg T_Reg 3, u_lay R_Reg T_Reg 4], w ∈ xG
  exact List.forall_mem_cons.mpr ⟨xG_mem 136 (by decide +kernel) (by decide +kernel), List.forall_mem_cons.mpr ⟨xG_mem 138 (by decide +kernel) (by decide +kernel), List.forall_mem_cons.mpr ⟨xG_mem 140 (by decide +kernel) (by decide +kernel), List.forall_mem_cons.mpr ⟨xG_mem 142 (by decide +kernel) (by decide +kernel), List.forall_mem_cons.mpr ⟨xG_mem 144 (by decide +kernel) (by decide +kernel), fun _ h => absurd h List.not_mem_nil⟩⟩⟩⟩⟩
def R_Lin : String := "RegionPool$Line"
def T_Lin : u_T := fun k => match k with
  | 0 => ("RegionPool$Line", "items", "[I", true)
  | _ => ("RegionPool$Line", "length", "I", false)
def t_Lin : Nat → FieldType := fun k => match k with
  | 0 => .array .int
  | _ => .int
theorem nm_Lin : ∀ a, a < 2 → ∀ b, b < 2 → a ≠ b → (T_Lin a).2.1 ≠ (T_Lin b).2.1 := by decide +kernel
theorem tk_Lin : ∀ k, k < 2 → parseFieldDescriptor (T_Lin k).2.2.1 = some (t_Lin k) := by decide +kernel
theorem in_Lin : ∀ w ∈ u_ws R_Lin T_Lin 2, w ∈ xG := by
  show ∀ w ∈ [u_lay R_Lin T_Lin 0, u_lay R_Lin T_Lin 1], w ∈ xG
  exact List.forall_mem_cons.mpr ⟨xG_mem 155 (by decide +kernel) (by decide +kernel), List.forall_mem_cons.mpr ⟨xG_mem 157 (by decide +kernel) (by decide +kernel), fun _ h => absurd h List.not_mem_nil⟩⟩
def R_Mar : String := "RegionPool$Marker"
def T_Mar : u_T := fun k => match k with
  | 0 => ("RegionPool$Marker", "memory", "LRegionPool$Memory;", true)
  | 1 => ("RegionPool$Marker", "live", "[Z", true)
  | 2 => ("RegionPool$Marker", "pending", "[I", true)
  | _ => ("RegionPool$Marker", "pendings", "I", false)
def t_Mar : Nat → FieldType := fun k => match k with
  | 0 => .object "RegionPool$Memory"
  | 1 => .array .boolean
  | 2 => .array .int
  | _ => .int
theorem nm_Mar : ∀ a, a < 4 → ∀ b, b < 4 → a ≠ b → (T_Mar a).2.1 ≠ (T_Mar b).2.1 := by decide +kernel
theorem tk_Mar : ∀ k, k < 4 → parseFieldDescriptor (T_Mar k).2.2.1 = some (t_Mar k) := by decide +kernel
theorem in_Mar : ∀ w ∈ u_ws R_Mar T_Mar 4, w ∈ xG := by
  show ∀ w ∈ [u_lay R_Mar T_Mar 0, u_lay R_Mar T_Mar 1, u_lay R_Mar T_Mar 2, u_lay R_Mar T_Mar 3], w ∈ xG
  exact List.forall_mem_cons.mpr ⟨xG_mem 211 (by decide +kernel) (by decide +kernel), List.forall_mem_cons.mpr ⟨xG_mem 213 (by decide +kernel) (by decide +kernel), List.forall_mem_cons.mpr ⟨xG_mem 215 (by decide +kernel) (by decide +kernel), List.forall_mem_cons.mpr ⟨xG_mem 217 (by decide +kernel) (by decide +kernel), fun _ h => absurd h List.not_mem_nil⟩⟩⟩⟩
def R_Mod : String := "RegionPoolModel"
def T_Mod : u_T := fun k => match k with
  | 0 => ("RegionPoolModel", "thrown", "I", false)
  | 1 => ("RegionPoolModel", "kind", "[I", true)
  | 2 => ("RegionPoolModel", "tag", "[I", true)
  | 3 => ("RegionPoolModel", "many", "[I", true)
  | 4 => ("RegionPoolModel", "in", "[I", true)
  | 5 => ("RegionPoolModel", "place", "[I", true)
  | 6 => ("RegionPoolModel", "watched", "[I", true)
  | 7 => ("RegionPoolModel", "sort", "[I", true)
  | 8 => ("RegionPoolModel", "value", "[I", true)
  | 9 => ("RegionPoolModel", "live", "[Z", true)
  | 10 => ("RegionPoolModel", "watches", "I", false)
  | 11 => ("RegionPoolModel", "object", "[I", true)
  | 12 => ("RegionPoolModel", "taken", "[Z", true)
  | 13 => ("RegionPoolModel", "regions", "I", false)
  | 14 => ("RegionPoolModel", "pages", "[I", true)
  | 15 => ("RegionPoolModel", "row", "[I", true)
  | 16 => ("RegionPoolModel", "filled", "[I", true)
  | 17 => ("RegionPoolModel", "rootSort", "[I", true)
  | 18 => ("RegionPoolModel", "rootValue", "[I", true)
  | 19 => ("RegionPoolModel", "queued", "I", false)
  | 20 => ("RegionPoolModel", "queue", "[I", true)
  | 21 => ("RegionPoolModel", "collections", "I", false)
  | 22 => ("RegionPoolModel", "gone", "I", false)
  | 23 => ("RegionPoolModel", "moved", "I", false)
  | 24 => ("RegionPoolModel", "lifted", "I", false)
  | 25 => ("RegionPoolModel", "copied", "I", false)
  | 26 => ("RegionPoolModel", "parts", "I", false)
  | 27 => ("RegionPoolModel", "part", "[I", true)
  | 28 => ("RegionPoolModel", "partOf", "[I", true)
  | 29 => ("RegionPoolModel", "pairs", "[J", true)
  | 30 => ("RegionPoolModel", "asked", "[I", true)
  | _ => ("RegionPoolModel", "askedMany", "I", false)
def t_Mod : Nat → FieldType := fun k => match k with
  | 0 => .int
  | 1 => .array .int
  | 2 => .array .int
  | 3 => .array .int
  | 4 => .array .int
  | 5 => .array .int
  | 6 => .array .int
  | 7 => .array .int
  | 8 => .array .int
  | 9 => .array .boolean
  | 10 => .int
  | 11 => .array .int
  | 12 => .array .boolean
  | 13 => .int
  | 14 => .array .int
  | 15 => .array .int
  | 16 => .array .int
  | 17 => .array .int
  | 18 => .array .int
  | 19 => .int
  | 20 => .array .int
  | 21 => .int
  | 22 => .int
  | 23 => .int
  | 24 => .int
  | 25 => .int
  | 26 => .int
  | 27 => .array .int
  | 28 => .array .int
  | 29 => .array .long
  | 30 => .array .int
  | _ => .int
theorem nm_Mod : ∀ a, a < 32 → ∀ b, b < 32 → a ≠ b → (T_Mod a).2.1 ≠ (T_Mod b).2.1 := by decide +kernel
theorem tk_Mod : ∀ k, k < 32 → parseFieldDescriptor (T_Mod k).2.2.1 = some (t_Mod k) := by decide +kernel
theorem in_Mod : ∀ w ∈ u_ws R_Mod T_Mod 32, w ∈ xG := by
  show ∀ w ∈ [u_lay R_Mod T_Mod 0, u_lay R_Mod T_Mod 1, u_lay R_Mod T_Mod 2, u_lay R_Mod T_Mod 3, u_lay R_Mod T_Mod 4, u_lay R_Mod T_Mod 5, u_lay R_Mod T_Mod 6, u_lay R_Mod T_Mod 7, u_lay R_Mod T_Mod 8, u_lay R_Mod T_Mod 9, u_lay R_Mod T_Mod 10, u_lay R_Mod T_Mod 11, u_lay R_Mod T_Mod 12, u_lay R_Mod T_Mod 13, u_lay R_Mod T_Mod 14, u_lay R_Mod T_Mod 15, u_lay R_Mod T_Mod 16, u_lay R_Mod T_Mod 17, u_lay R_Mod T_Mod 18, u_lay R_Mod T_Mod 19, u_lay R_Mod T_Mod 20, u_lay R_Mod T_Mod 21, u_lay R_Mod T_Mod 22, u_lay R_Mod T_Mod 23, u_lay R_Mod T_Mod 24, u_lay R_Mod T_Mod 25, u_lay R_Mod T_Mod 26, u_lay R_Mod T_Mod 27, u_lay R_Mod T_Mod 28, u_lay R_Mod T_Mod 29, u_lay R_Mod T_Mod 30, u_lay R_Mod T_Mod 31], w ∈ xG
  exact List.forall_mem_cons.mpr ⟨xG_mem 1016 (by decide +kernel) (by decide +kernel), List.forall_mem_cons.mpr ⟨xG_mem 1018 (by decide +kernel) (by decide +kernel), List.forall_mem_cons.mpr ⟨xG_mem 1020 (by decide +kernel) (by decide +kernel), List.forall_mem_cons.mpr ⟨xG_mem 1022 (by decide +kernel) (by decide +kernel), List.forall_mem_cons.mpr ⟨xG_mem 1024 (by decide +kernel) (by decide +kernel), List.forall_mem_cons.mpr ⟨xG_mem 1026 (by decide +kernel) (by decide +kernel), List.forall_mem_cons.mpr ⟨xG_mem 1028 (by decide +kernel) (by decide +kernel), List.forall_mem_cons.mpr ⟨xG_mem 1030 (by decide +kernel) (by decide +kernel), List.forall_mem_cons.mpr ⟨xG_mem 1032 (by decide +kernel) (by decide +kernel), List.forall_mem_cons.mpr ⟨xG_mem 1034 (by decide +kernel) (by decide +kernel), List.forall_mem_cons.mpr ⟨xG_mem 1036 (by decide +kernel) (by decide +kernel), List.forall_mem_cons.mpr ⟨xG_mem 1038 (by decide +kernel) (by decide +kernel), List.forall_mem_cons.mpr ⟨xG_mem 1040 (by decide +kernel) (by decide +kernel), List.forall_mem_cons.mpr ⟨xG_mem 1042 (by decide +kernel) (by decide +kernel), List.forall_mem_cons.mpr ⟨xG_mem 1044 (by decide +kernel) (by decide +kernel), List.forall_mem_cons.mpr ⟨xG_mem 1046 (by decide +kernel) (by decide +kernel), List.forall_mem_cons.mpr ⟨xG_mem 1048 (by decide +kernel) (by decide +kernel), List.forall_mem_cons.mpr ⟨xG_mem 1050 (by decide +kernel) (by decide +kernel), List.forall_mem_cons.mpr ⟨xG_mem 1052 (by decide +kernel) (by decide +kernel), List.forall_mem_cons.mpr ⟨xG_mem 1054 (by decide +kernel) (by decide +kernel), List.forall_mem_cons.mpr ⟨xG_mem 1056 (by decide +kernel) (by decide +kernel), List.forall_mem_cons.mpr ⟨xG_mem 1058 (by decide +kernel) (by decide +kernel), List.forall_mem_cons.mpr ⟨xG_mem 1060 (by decide +kernel) (by decide +kernel), List.forall_mem_cons.mpr ⟨xG_mem 1062 (by decide +kernel) (by decide +kernel), List.forall_mem_cons.mpr ⟨xG_mem 1064 (by decide +kernel) (by decide +kernel), List.forall_mem_cons.mpr ⟨xG_mem 1066 (by decide +kernel) (by decide +kernel), List.forall_mem_cons.mpr ⟨xG_mem 1068 (by decide +kernel) (by decide +kernel), List.forall_mem_cons.mpr ⟨xG_mem 1070 (by decide +kernel) (by decide +kernel), List.forall_mem_cons.mpr ⟨xG_mem 1072 (by decide +kernel) (by decide +kernel), List.forall_mem_cons.mpr ⟨xG_mem 1074 (by decide +kernel) (by decide +kernel), List.forall_mem_cons.mpr ⟨xG_mem 1076 (by decide +kernel) (by decide +kernel), List.forall_mem_cons.mpr ⟨xG_mem 1078 (by decide +kernel) (by decide +kernel), fun _ h => absurd h List.not_mem_nil⟩⟩⟩⟩⟩⟩⟩⟩⟩⟩⟩⟩⟩⟩⟩⟩⟩⟩⟩⟩⟩⟩⟩⟩⟩⟩⟩⟩⟩⟩⟩⟩
abbrev xcl : List vw_C := [(R_Rp, T_Rp, 6), (R_Mem, T_Mem, 6), (R_Col, T_Col, 5), (R_Par, T_Par, 4), (R_Lik, T_Lik, 5), (R_Val, T_Val, 2), (R_Hea, T_Hea, 1), (R_Reg, T_Reg, 5), (R_Lin, T_Lin, 2), (R_Mar, T_Mar, 4), (R_Mod, T_Mod, 32)]
def R_Law : String := "RegionPoolLaw"
