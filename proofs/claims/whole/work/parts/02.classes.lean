/-! THE PROGRAM'S TABLES, by program out of the Statement: classes and their fields -/
def pm_nm (i : Nat) : String := (["PathRunner", "PathRunner$Formulas", "PathRunner$Inputs", "PathRunner$Machine", "PathRunner$Program", "PathRunner$Row", "PathRunner$Search", "PathRunner$Sharing", "PathRunner$Tokens", "PathRunner$Way", "PathRunnerModel", "PathRunner$Words", "PathRunnerLaw", "java/lang/Integer", "java/lang/Math", "java/util/Arrays"] : List String).getD i ""
def lw_good : List Cond := lw_tbl.filter goodWord
theorem pm_mem {i : Nat} {w : Cond} (h : lw_tbl[i]? = some w) (g : goodWord w = true) : w ∈ lw_good := List.mem_filter.mpr ⟨List.mem_of_getElem? h, g⟩
def pm_T0 : u_T := fun k => match k with
  | 0 => ("PathRunner", "hunt", "LPathRunner$Search;", true)
  | 1 => ("PathRunner", "machine", "LPathRunner$Machine;", true)
  | 2 => ("PathRunner", "program", "LPathRunner$Program;", true)
  | 3 => ("PathRunner", "formulas", "LPathRunner$Formulas;", true)
  | 4 => ("PathRunner", "plainWay", "LPathRunner$Way;", true)
  | 5 => ("PathRunner", "tokens", "LPathRunner$Tokens;", true)
  | 6 => ("PathRunner", "seen", "LPathRunner$Inputs;", true)
  | _ => ("PathRunner", "searched", "Z", false)
def pm_t0 : Nat → FieldType := fun k => match k with
  | 0 => .object "PathRunner$Search"
  | 1 => .object "PathRunner$Machine"
  | 2 => .object "PathRunner$Program"
  | 3 => .object "PathRunner$Formulas"
  | 4 => .object "PathRunner$Way"
  | 5 => .object "PathRunner$Tokens"
  | 6 => .object "PathRunner$Inputs"
  | _ => .boolean
theorem pm_n0 : ∀ a, a < 8 → ∀ b, b < 8 → a ≠ b → (pm_T0 a).2.1 ≠ (pm_T0 b).2.1 := by decide +kernel
theorem pm_d0 : ∀ k, k < 8 → parseFieldDescriptor (pm_T0 k).2.2.1 = some (pm_t0 k) := by decide +kernel
theorem pm_o0 : ∀ k, k < 8 → (pm_T0 k).1 = "PathRunner" := by decide +kernel
theorem pm_w0 : ∀ w ∈ u_ws "PathRunner" pm_T0 8, w ∈ lw_good := by
  intro w hw
  obtain ⟨k, hk, rfl⟩ := List.mem_map.mp hw
  have hk := List.mem_range.mp hk
  rcases (show k = 0 ∨ k = 1 ∨ k = 2 ∨ k = 3 ∨ k = 4 ∨ k = 5 ∨ k = 6 ∨ k = 7 by omega) with rfl | rfl | rfl | rfl | rfl | rfl | rfl | rfl
  · exact pm_mem (i := 387) (by decide +kernel) (by decide +kernel)
  · exact pm_mem (i := 389) (by decide +kernel) (by decide +kernel)
  · exact pm_mem (i := 391) (by decide +kernel) (by decide +kernel)
  · exact pm_mem (i := 393) (by decide +kernel) (by decide +kernel)
  · exact pm_mem (i := 395) (by decide +kernel) (by decide +kernel)
  · exact pm_mem (i := 397) (by decide +kernel) (by decide +kernel)
  · exact pm_mem (i := 399) (by decide +kernel) (by decide +kernel)
  · exact pm_mem (i := 401) (by decide +kernel) (by decide +kernel)
theorem pm_i0 : Cond.instantiable "PathRunner" 8 ∈ lw_good ∧ Cond.initialized "PathRunner" ∈ lw_good := ⟨pm_mem (i := 72) (by decide +kernel) (by decide +kernel), pm_mem (i := 55) (by decide +kernel) (by decide +kernel)⟩
def pm_T1 : u_T := fun k => match k with
  | 0 => ("PathRunner$Formulas", "ops", "[I", true)
  | 1 => ("PathRunner$Formulas", "lefts", "[I", true)
  | 2 => ("PathRunner$Formulas", "rights", "[I", true)
  | 3 => ("PathRunner$Formulas", "sizes", "[I", true)
  | _ => ("PathRunner$Formulas", "used", "I", false)
def pm_t1 : Nat → FieldType := fun k => match k with
  | 0 => .array .int
  | 1 => .array .int
  | 2 => .array .int
  | 3 => .array .int
  | _ => .int
theorem pm_n1 : ∀ a, a < 5 → ∀ b, b < 5 → a ≠ b → (pm_T1 a).2.1 ≠ (pm_T1 b).2.1 := by decide +kernel
theorem pm_d1 : ∀ k, k < 5 → parseFieldDescriptor (pm_T1 k).2.2.1 = some (pm_t1 k) := by decide +kernel
theorem pm_o1 : ∀ k, k < 5 → (pm_T1 k).1 = "PathRunner$Formulas" := by decide +kernel
theorem pm_w1 : ∀ w ∈ u_ws "PathRunner$Formulas" pm_T1 5, w ∈ lw_good := by
  intro w hw
  obtain ⟨k, hk, rfl⟩ := List.mem_map.mp hw
  have hk := List.mem_range.mp hk
  rcases (show k = 0 ∨ k = 1 ∨ k = 2 ∨ k = 3 ∨ k = 4 by omega) with rfl | rfl | rfl | rfl | rfl
  · exact pm_mem (i := 248) (by decide +kernel) (by decide +kernel)
  · exact pm_mem (i := 250) (by decide +kernel) (by decide +kernel)
  · exact pm_mem (i := 252) (by decide +kernel) (by decide +kernel)
  · exact pm_mem (i := 254) (by decide +kernel) (by decide +kernel)
  · exact pm_mem (i := 256) (by decide +kernel) (by decide +kernel)
theorem pm_i1 : Cond.instantiable "PathRunner$Formulas" 5 ∈ lw_good ∧ Cond.initialized "PathRunner$Formulas" ∈ lw_good := ⟨pm_mem (i := 238) (by decide +kernel) (by decide +kernel), pm_mem (i := 62) (by decide +kernel) (by decide +kernel)⟩
def pm_T2 : u_T := fun k => match k with
  | _ => ("PathRunner$Inputs", "rows", "[I", true)
def pm_t2 : Nat → FieldType := fun k => match k with
  | _ => .array .int
theorem pm_n2 : ∀ a, a < 1 → ∀ b, b < 1 → a ≠ b → (pm_T2 a).2.1 ≠ (pm_T2 b).2.1 := by decide +kernel
theorem pm_d2 : ∀ k, k < 1 → parseFieldDescriptor (pm_T2 k).2.2.1 = some (pm_t2 k) := by decide +kernel
theorem pm_o2 : ∀ k, k < 1 → (pm_T2 k).1 = "PathRunner$Inputs" := by decide +kernel
theorem pm_w2 : ∀ w ∈ u_ws "PathRunner$Inputs" pm_T2 1, w ∈ lw_good := by
  intro w hw
  obtain ⟨k, hk, rfl⟩ := List.mem_map.mp hw
  have hk := List.mem_range.mp hk
  rcases (show k = 0 by omega) with rfl
  · exact pm_mem (i := 92) (by decide +kernel) (by decide +kernel)
theorem pm_i2 : Cond.instantiable "PathRunner$Inputs" 1 ∈ lw_good ∧ Cond.initialized "PathRunner$Inputs" ∈ lw_good := ⟨pm_mem (i := 86) (by decide +kernel) (by decide +kernel), pm_mem (i := 57) (by decide +kernel) (by decide +kernel)⟩
def pm_T3 : u_T := fun k => match k with
  | 0 => ("PathRunner$Machine", "program", "LPathRunner$Program;", true)
  | _ => ("PathRunner$Machine", "formulas", "LPathRunner$Formulas;", true)
def pm_t3 : Nat → FieldType := fun k => match k with
  | 0 => .object "PathRunner$Program"
  | _ => .object "PathRunner$Formulas"
theorem pm_n3 : ∀ a, a < 2 → ∀ b, b < 2 → a ≠ b → (pm_T3 a).2.1 ≠ (pm_T3 b).2.1 := by decide +kernel
theorem pm_d3 : ∀ k, k < 2 → parseFieldDescriptor (pm_T3 k).2.2.1 = some (pm_t3 k) := by decide +kernel
theorem pm_o3 : ∀ k, k < 2 → (pm_T3 k).1 = "PathRunner$Machine" := by decide +kernel
theorem pm_w3 : ∀ w ∈ u_ws "PathRunner$Machine" pm_T3 2, w ∈ lw_good := by
  intro w hw
  obtain ⟨k, hk, rfl⟩ := List.mem_map.mp hw
  have hk := List.mem_range.mp hk
  rcases (show k = 0 ∨ k = 1 by omega) with rfl | rfl
  · exact pm_mem (i := 265) (by decide +kernel) (by decide +kernel)
  · exact pm_mem (i := 267) (by decide +kernel) (by decide +kernel)
theorem pm_i3 : Cond.instantiable "PathRunner$Machine" 2 ∈ lw_good ∧ Cond.initialized "PathRunner$Machine" ∈ lw_good := ⟨pm_mem (i := 195) (by decide +kernel) (by decide +kernel), pm_mem (i := 60) (by decide +kernel) (by decide +kernel)⟩
def pm_T4 : u_T := fun k => match k with
  | 0 => ("PathRunner$Program", "methods", "I", false)
  | 1 => ("PathRunner$Program", "arguments", "[I", true)
  | 2 => ("PathRunner$Program", "lengths", "[I", true)
  | 3 => ("PathRunner$Program", "ops", "[I", true)
  | 4 => ("PathRunner$Program", "numbers", "[I", true)
  | 5 => ("PathRunner$Program", "handlers", "[I", true)
  | 6 => ("PathRunner$Program", "froms", "[I", true)
  | 7 => ("PathRunner$Program", "tos", "[I", true)
  | 8 => ("PathRunner$Program", "targets", "[I", true)
  | _ => ("PathRunner$Program", "kinds", "[I", true)
def pm_t4 : Nat → FieldType := fun k => match k with
  | 0 => .int
  | 1 => .array .int
  | 2 => .array .int
  | 3 => .array .int
  | 4 => .array .int
  | 5 => .array .int
  | 6 => .array .int
  | 7 => .array .int
  | 8 => .array .int
  | _ => .array .int
theorem pm_n4 : ∀ a, a < 10 → ∀ b, b < 10 → a ≠ b → (pm_T4 a).2.1 ≠ (pm_T4 b).2.1 := by decide +kernel
theorem pm_d4 : ∀ k, k < 10 → parseFieldDescriptor (pm_T4 k).2.2.1 = some (pm_t4 k) := by decide +kernel
theorem pm_o4 : ∀ k, k < 10 → (pm_T4 k).1 = "PathRunner$Program" := by decide +kernel
theorem pm_w4 : ∀ w ∈ u_ws "PathRunner$Program" pm_T4 10, w ∈ lw_good := by
  intro w hw
  obtain ⟨k, hk, rfl⟩ := List.mem_map.mp hw
  have hk := List.mem_range.mp hk
  rcases (show k = 0 ∨ k = 1 ∨ k = 2 ∨ k = 3 ∨ k = 4 ∨ k = 5 ∨ k = 6 ∨ k = 7 ∨ k = 8 ∨ k = 9 by omega) with rfl | rfl | rfl | rfl | rfl | rfl | rfl | rfl | rfl | rfl
  · exact pm_mem (i := 216) (by decide +kernel) (by decide +kernel)
  · exact pm_mem (i := 218) (by decide +kernel) (by decide +kernel)
  · exact pm_mem (i := 220) (by decide +kernel) (by decide +kernel)
  · exact pm_mem (i := 222) (by decide +kernel) (by decide +kernel)
  · exact pm_mem (i := 224) (by decide +kernel) (by decide +kernel)
  · exact pm_mem (i := 226) (by decide +kernel) (by decide +kernel)
  · exact pm_mem (i := 228) (by decide +kernel) (by decide +kernel)
  · exact pm_mem (i := 230) (by decide +kernel) (by decide +kernel)
  · exact pm_mem (i := 232) (by decide +kernel) (by decide +kernel)
  · exact pm_mem (i := 234) (by decide +kernel) (by decide +kernel)
theorem pm_i4 : Cond.instantiable "PathRunner$Program" 10 ∈ lw_good ∧ Cond.initialized "PathRunner$Program" ∈ lw_good := ⟨pm_mem (i := 201) (by decide +kernel) (by decide +kernel), pm_mem (i := 61) (by decide +kernel) (by decide +kernel)⟩
def pm_T5 : u_T := fun k => match k with
  | 0 => ("PathRunner$Row", "numbers", "[I", true)
  | 1 => ("PathRunner$Row", "size", "I", false)
  | _ => ("PathRunner$Row", "z", "I", false)
def pm_t5 : Nat → FieldType := fun k => match k with
  | 0 => .array .int
  | 1 => .int
  | _ => .int
theorem pm_n5 : ∀ a, a < 3 → ∀ b, b < 3 → a ≠ b → (pm_T5 a).2.1 ≠ (pm_T5 b).2.1 := by decide +kernel
theorem pm_d5 : ∀ k, k < 3 → parseFieldDescriptor (pm_T5 k).2.2.1 = some (pm_t5 k) := by decide +kernel
theorem pm_o5 : ∀ k, k < 3 → (pm_T5 k).1 = "PathRunner$Row" := by decide +kernel
theorem pm_w5 : ∀ w ∈ u_ws "PathRunner$Row" pm_T5 3, w ∈ lw_good := by
  intro w hw
  obtain ⟨k, hk, rfl⟩ := List.mem_map.mp hw
  have hk := List.mem_range.mp hk
  rcases (show k = 0 ∨ k = 1 ∨ k = 2 by omega) with rfl | rfl | rfl
  · exact pm_mem (i := 283) (by decide +kernel) (by decide +kernel)
  · exact pm_mem (i := 285) (by decide +kernel) (by decide +kernel)
  · exact pm_mem (i := 287) (by decide +kernel) (by decide +kernel)
theorem pm_i5 : Cond.instantiable "PathRunner$Row" 3 ∈ lw_good ∧ Cond.initialized "PathRunner$Row" ∈ lw_good := ⟨pm_mem (i := 273) (by decide +kernel) (by decide +kernel), pm_mem (i := 63) (by decide +kernel) (by decide +kernel)⟩
def pm_T6 : u_T := fun k => match k with
  | 0 => ("PathRunner$Search", "machine", "LPathRunner$Machine;", true)
  | 1 => ("PathRunner$Search", "seed", "I", true)
  | 2 => ("PathRunner$Search", "ways", "[LPathRunner$Way;", true)
  | 3 => ("PathRunner$Search", "spare", "[I", true)
  | 4 => ("PathRunner$Search", "spareCount", "I", false)
  | 5 => ("PathRunner$Search", "row", "LPathRunner$Row;", true)
  | 6 => ("PathRunner$Search", "paths", "[I", true)
  | 7 => ("PathRunner$Search", "pathCount", "I", false)
  | 8 => ("PathRunner$Search", "times", "[I", true)
  | 9 => ("PathRunner$Search", "comeTo", "I", false)
  | 10 => ("PathRunner$Search", "lost", "I", false)
  | 11 => ("PathRunner$Search", "latestPruned", "[I", true)
  | 12 => ("PathRunner$Search", "pruned", "I", false)
  | 13 => ("PathRunner$Search", "sharing", "LPathRunner$Sharing;", true)
  | 14 => ("PathRunner$Search", "method", "I", false)
  | 15 => ("PathRunner$Search", "bound", "I", false)
  | 16 => ("PathRunner$Search", "order", "I", false)
  | _ => ("PathRunner$Search", "splits", "I", false)
def pm_t6 : Nat → FieldType := fun k => match k with
  | 0 => .object "PathRunner$Machine"
  | 1 => .int
  | 2 => .array (.object "PathRunner$Way")
  | 3 => .array .int
  | 4 => .int
  | 5 => .object "PathRunner$Row"
  | 6 => .array .int
  | 7 => .int
  | 8 => .array .int
  | 9 => .int
  | 10 => .int
  | 11 => .array .int
  | 12 => .int
  | 13 => .object "PathRunner$Sharing"
  | 14 => .int
  | 15 => .int
  | 16 => .int
  | _ => .int
theorem pm_n6 : ∀ a, a < 18 → ∀ b, b < 18 → a ≠ b → (pm_T6 a).2.1 ≠ (pm_T6 b).2.1 := by decide +kernel
theorem pm_d6 : ∀ k, k < 18 → parseFieldDescriptor (pm_T6 k).2.2.1 = some (pm_t6 k) := by decide +kernel
theorem pm_o6 : ∀ k, k < 18 → (pm_T6 k).1 = "PathRunner$Search" := by decide +kernel
theorem pm_w6 : ∀ w ∈ u_ws "PathRunner$Search" pm_T6 18, w ∈ lw_good := by
  intro w hw
  obtain ⟨k, hk, rfl⟩ := List.mem_map.mp hw
  have hk := List.mem_range.mp hk
  rcases (show k = 0 ∨ k = 1 ∨ k = 2 ∨ k = 3 ∨ k = 4 ∨ k = 5 ∨ k = 6 ∨ k = 7 ∨ k = 8 ∨ k = 9 ∨ k = 10 ∨ k = 11 ∨ k = 12 ∨ k = 13 ∨ k = 14 ∨ k = 15 ∨ k = 16 ∨ k = 17 by omega) with rfl | rfl | rfl | rfl | rfl | rfl | rfl | rfl | rfl | rfl | rfl | rfl | rfl | rfl | rfl | rfl | rfl | rfl
  · exact pm_mem (i := 342) (by decide +kernel) (by decide +kernel)
  · exact pm_mem (i := 344) (by decide +kernel) (by decide +kernel)
  · exact pm_mem (i := 346) (by decide +kernel) (by decide +kernel)
  · exact pm_mem (i := 348) (by decide +kernel) (by decide +kernel)
  · exact pm_mem (i := 350) (by decide +kernel) (by decide +kernel)
  · exact pm_mem (i := 352) (by decide +kernel) (by decide +kernel)
  · exact pm_mem (i := 354) (by decide +kernel) (by decide +kernel)
  · exact pm_mem (i := 356) (by decide +kernel) (by decide +kernel)
  · exact pm_mem (i := 358) (by decide +kernel) (by decide +kernel)
  · exact pm_mem (i := 360) (by decide +kernel) (by decide +kernel)
  · exact pm_mem (i := 362) (by decide +kernel) (by decide +kernel)
  · exact pm_mem (i := 364) (by decide +kernel) (by decide +kernel)
  · exact pm_mem (i := 366) (by decide +kernel) (by decide +kernel)
  · exact pm_mem (i := 368) (by decide +kernel) (by decide +kernel)
  · exact pm_mem (i := 370) (by decide +kernel) (by decide +kernel)
  · exact pm_mem (i := 372) (by decide +kernel) (by decide +kernel)
  · exact pm_mem (i := 374) (by decide +kernel) (by decide +kernel)
  · exact pm_mem (i := 376) (by decide +kernel) (by decide +kernel)
theorem pm_i6 : Cond.instantiable "PathRunner$Search" 18 ∈ lw_good ∧ Cond.initialized "PathRunner$Search" ∈ lw_good := ⟨pm_mem (i := 189) (by decide +kernel) (by decide +kernel), pm_mem (i := 59) (by decide +kernel) (by decide +kernel)⟩
def pm_T7 : u_T := fun k => match k with
  | 0 => ("PathRunner$Sharing", "shares", "[LPathRunner$Inputs;", true)
  | 1 => ("PathRunner$Sharing", "leasts", "[I", true)
  | 2 => ("PathRunner$Sharing", "left", "LPathRunner$Tokens;", true)
  | _ => ("PathRunner$Sharing", "right", "LPathRunner$Tokens;", true)
def pm_t7 : Nat → FieldType := fun k => match k with
  | 0 => .array (.object "PathRunner$Inputs")
  | 1 => .array .int
  | 2 => .object "PathRunner$Tokens"
  | _ => .object "PathRunner$Tokens"
theorem pm_n7 : ∀ a, a < 4 → ∀ b, b < 4 → a ≠ b → (pm_T7 a).2.1 ≠ (pm_T7 b).2.1 := by decide +kernel
theorem pm_d7 : ∀ k, k < 4 → parseFieldDescriptor (pm_T7 k).2.2.1 = some (pm_t7 k) := by decide +kernel
theorem pm_o7 : ∀ k, k < 4 → (pm_T7 k).1 = "PathRunner$Sharing" := by decide +kernel
theorem pm_w7 : ∀ w ∈ u_ws "PathRunner$Sharing" pm_T7 4, w ∈ lw_good := by
  intro w hw
  obtain ⟨k, hk, rfl⟩ := List.mem_map.mp hw
  have hk := List.mem_range.mp hk
  rcases (show k = 0 ∨ k = 1 ∨ k = 2 ∨ k = 3 by omega) with rfl | rfl | rfl | rfl
  · exact pm_mem (i := 305) (by decide +kernel) (by decide +kernel)
  · exact pm_mem (i := 307) (by decide +kernel) (by decide +kernel)
  · exact pm_mem (i := 309) (by decide +kernel) (by decide +kernel)
  · exact pm_mem (i := 311) (by decide +kernel) (by decide +kernel)
theorem pm_i7 : Cond.instantiable "PathRunner$Sharing" 4 ∈ lw_good ∧ Cond.initialized "PathRunner$Sharing" ∈ lw_good := ⟨pm_mem (i := 291) (by decide +kernel) (by decide +kernel), pm_mem (i := 64) (by decide +kernel) (by decide +kernel)⟩
def pm_T8 : u_T := fun k => match k with
  | 0 => ("PathRunner$Tokens", "row", "[I", true)
  | 1 => ("PathRunner$Tokens", "open", "[I", true)
  | 2 => ("PathRunner$Tokens", "stack", "[I", true)
  | _ => ("PathRunner$Tokens", "length", "I", false)
def pm_t8 : Nat → FieldType := fun k => match k with
  | 0 => .array .int
  | 1 => .array .int
  | 2 => .array .int
  | _ => .int
theorem pm_n8 : ∀ a, a < 4 → ∀ b, b < 4 → a ≠ b → (pm_T8 a).2.1 ≠ (pm_T8 b).2.1 := by decide +kernel
theorem pm_d8 : ∀ k, k < 4 → parseFieldDescriptor (pm_T8 k).2.2.1 = some (pm_t8 k) := by decide +kernel
theorem pm_o8 : ∀ k, k < 4 → (pm_T8 k).1 = "PathRunner$Tokens" := by decide +kernel
theorem pm_w8 : ∀ w ∈ u_ws "PathRunner$Tokens" pm_T8 4, w ∈ lw_good := by
  intro w hw
  obtain ⟨k, hk, rfl⟩ := List.mem_map.mp hw
  have hk := List.mem_range.mp hk
  rcases (show k = 0 ∨ k = 1 ∨ k = 2 ∨ k = 3 by omega) with rfl | rfl | rfl | rfl
  · exact pm_mem (i := 177) (by decide +kernel) (by decide +kernel)
  · exact pm_mem (i := 179) (by decide +kernel) (by decide +kernel)
  · exact pm_mem (i := 181) (by decide +kernel) (by decide +kernel)
  · exact pm_mem (i := 183) (by decide +kernel) (by decide +kernel)
theorem pm_i8 : Cond.instantiable "PathRunner$Tokens" 4 ∈ lw_good ∧ Cond.initialized "PathRunner$Tokens" ∈ lw_good := ⟨pm_mem (i := 167) (by decide +kernel) (by decide +kernel), pm_mem (i := 58) (by decide +kernel) (by decide +kernel)⟩
def pm_T9 : u_T := fun k => match k with
  | 0 => ("PathRunner$Way", "methods", "[I", true)
  | 1 => ("PathRunner$Way", "places", "[I", true)
  | 2 => ("PathRunner$Way", "heights", "[I", true)
  | 3 => ("PathRunner$Way", "values", "[I", true)
  | 4 => ("PathRunner$Way", "top", "I", false)
  | 5 => ("PathRunner$Way", "lengths", "[I", true)
  | 6 => ("PathRunner$Way", "elements", "[I", true)
  | 7 => ("PathRunner$Way", "arrays", "I", false)
  | 8 => ("PathRunner$Way", "conditions", "[I", true)
  | 9 => ("PathRunner$Way", "conditionCount", "I", false)
  | 10 => ("PathRunner$Way", "inputs", "LPathRunner$Inputs;", true)
  | 11 => ("PathRunner$Way", "done", "I", false)
  | 12 => ("PathRunner$Way", "outcome", "I", false)
  | 13 => ("PathRunner$Way", "endPlace", "I", false)
  | 14 => ("PathRunner$Way", "kind", "I", false)
  | 15 => ("PathRunner$Way", "returned", "I", false)
  | 16 => ("PathRunner$Way", "alternative", "I", false)
  | _ => ("PathRunner$Way", "splitNumber", "I", false)
def pm_t9 : Nat → FieldType := fun k => match k with
  | 0 => .array .int
  | 1 => .array .int
  | 2 => .array .int
  | 3 => .array .int
  | 4 => .int
  | 5 => .array .int
  | 6 => .array .int
  | 7 => .int
  | 8 => .array .int
  | 9 => .int
  | 10 => .object "PathRunner$Inputs"
  | 11 => .int
  | 12 => .int
  | 13 => .int
  | 14 => .int
  | 15 => .int
  | 16 => .int
  | _ => .int
theorem pm_n9 : ∀ a, a < 18 → ∀ b, b < 18 → a ≠ b → (pm_T9 a).2.1 ≠ (pm_T9 b).2.1 := by decide +kernel
theorem pm_d9 : ∀ k, k < 18 → parseFieldDescriptor (pm_T9 k).2.2.1 = some (pm_t9 k) := by decide +kernel
theorem pm_o9 : ∀ k, k < 18 → (pm_T9 k).1 = "PathRunner$Way" := by decide +kernel
theorem pm_w9 : ∀ w ∈ u_ws "PathRunner$Way" pm_T9 18, w ∈ lw_good := by
  intro w hw
  obtain ⟨k, hk, rfl⟩ := List.mem_map.mp hw
  have hk := List.mem_range.mp hk
  rcases (show k = 0 ∨ k = 1 ∨ k = 2 ∨ k = 3 ∨ k = 4 ∨ k = 5 ∨ k = 6 ∨ k = 7 ∨ k = 8 ∨ k = 9 ∨ k = 10 ∨ k = 11 ∨ k = 12 ∨ k = 13 ∨ k = 14 ∨ k = 15 ∨ k = 16 ∨ k = 17 by omega) with rfl | rfl | rfl | rfl | rfl | rfl | rfl | rfl | rfl | rfl | rfl | rfl | rfl | rfl | rfl | rfl | rfl | rfl
  · exact pm_mem (i := 129) (by decide +kernel) (by decide +kernel)
  · exact pm_mem (i := 131) (by decide +kernel) (by decide +kernel)
  · exact pm_mem (i := 133) (by decide +kernel) (by decide +kernel)
  · exact pm_mem (i := 135) (by decide +kernel) (by decide +kernel)
  · exact pm_mem (i := 137) (by decide +kernel) (by decide +kernel)
  · exact pm_mem (i := 139) (by decide +kernel) (by decide +kernel)
  · exact pm_mem (i := 141) (by decide +kernel) (by decide +kernel)
  · exact pm_mem (i := 143) (by decide +kernel) (by decide +kernel)
  · exact pm_mem (i := 145) (by decide +kernel) (by decide +kernel)
  · exact pm_mem (i := 147) (by decide +kernel) (by decide +kernel)
  · exact pm_mem (i := 149) (by decide +kernel) (by decide +kernel)
  · exact pm_mem (i := 151) (by decide +kernel) (by decide +kernel)
  · exact pm_mem (i := 153) (by decide +kernel) (by decide +kernel)
  · exact pm_mem (i := 155) (by decide +kernel) (by decide +kernel)
  · exact pm_mem (i := 157) (by decide +kernel) (by decide +kernel)
  · exact pm_mem (i := 159) (by decide +kernel) (by decide +kernel)
  · exact pm_mem (i := 161) (by decide +kernel) (by decide +kernel)
  · exact pm_mem (i := 163) (by decide +kernel) (by decide +kernel)
theorem pm_i9 : Cond.instantiable "PathRunner$Way" 18 ∈ lw_good ∧ Cond.initialized "PathRunner$Way" ∈ lw_good := ⟨pm_mem (i := 80) (by decide +kernel) (by decide +kernel), pm_mem (i := 56) (by decide +kernel) (by decide +kernel)⟩
def pm_T10 : u_T := fun k => match k with
  | 0 => ("PathRunnerModel", "seed", "I", true)
  | 1 => ("PathRunnerModel", "methods", "I", false)
  | 2 => ("PathRunnerModel", "arguments", "[I", true)
  | 3 => ("PathRunnerModel", "many", "[I", true)
  | 4 => ("PathRunnerModel", "ops", "[I", true)
  | 5 => ("PathRunnerModel", "as", "[I", true)
  | 6 => ("PathRunnerModel", "handlers", "[I", true)
  | 7 => ("PathRunnerModel", "handle", "[I", true)
  | 8 => ("PathRunnerModel", "m", "[I", true)
  | 9 => ("PathRunnerModel", "left", "[B", true)
  | 10 => ("PathRunnerModel", "taken", "[Z", true)
  | 11 => ("PathRunnerModel", "nOp", "[I", true)
  | 12 => ("PathRunnerModel", "nA", "[I", true)
  | 13 => ("PathRunnerModel", "nB", "[I", true)
  | 14 => ("PathRunnerModel", "nSize", "[I", true)
  | 15 => ("PathRunnerModel", "nodes", "I", false)
  | 16 => ("PathRunnerModel", "searched", "Z", false)
  | 17 => ("PathRunnerModel", "order", "I", false)
  | 18 => ("PathRunnerModel", "bound", "I", false)
  | 19 => ("PathRunnerModel", "z", "I", false)
  | 20 => ("PathRunnerModel", "row", "[I", true)
  | 21 => ("PathRunnerModel", "waiting", "I", false)
  | 22 => ("PathRunnerModel", "groups", "I", false)
  | 23 => ("PathRunnerModel", "paths", "[I", true)
  | 24 => ("PathRunnerModel", "ended", "I", false)
  | 25 => ("PathRunnerModel", "lost", "I", false)
  | 26 => ("PathRunnerModel", "pruned", "I", false)
  | 27 => ("PathRunnerModel", "prunedPlace", "[I", true)
  | 28 => ("PathRunnerModel", "prunedAlt", "[I", true)
  | 29 => ("PathRunnerModel", "come", "[I", true)
  | 30 => ("PathRunnerModel", "comeAll", "I", false)
  | 31 => ("PathRunnerModel", "counting", "Z", false)
  | 32 => ("PathRunnerModel", "pile", "[I", true)
  | 33 => ("PathRunnerModel", "tokens", "[I", true)
  | 34 => ("PathRunnerModel", "zero", "Z", false)
  | 35 => ("PathRunnerModel", "w", "I", false)
  | 36 => ("PathRunnerModel", "f", "I", false)
  | 37 => ("PathRunnerModel", "alternatives", "I", false)
  | 38 => ("PathRunnerModel", "first", "I", false)
  | 39 => ("PathRunnerModel", "second", "I", false)
  | 40 => ("PathRunnerModel", "choice", "[I", true)
  | _ => ("PathRunnerModel", "firsts", "[I", true)
def pm_t10 : Nat → FieldType := fun k => match k with
  | 0 => .int
  | 1 => .int
  | 2 => .array .int
  | 3 => .array .int
  | 4 => .array .int
  | 5 => .array .int
  | 6 => .array .int
  | 7 => .array .int
  | 8 => .array .int
  | 9 => .array .byte
  | 10 => .array .boolean
  | 11 => .array .int
  | 12 => .array .int
  | 13 => .array .int
  | 14 => .array .int
  | 15 => .int
  | 16 => .boolean
  | 17 => .int
  | 18 => .int
  | 19 => .int
  | 20 => .array .int
  | 21 => .int
  | 22 => .int
  | 23 => .array .int
  | 24 => .int
  | 25 => .int
  | 26 => .int
  | 27 => .array .int
  | 28 => .array .int
  | 29 => .array .int
  | 30 => .int
  | 31 => .boolean
  | 32 => .array .int
  | 33 => .array .int
  | 34 => .boolean
  | 35 => .int
  | 36 => .int
  | 37 => .int
  | 38 => .int
  | 39 => .int
  | 40 => .array .int
  | _ => .array .int
theorem pm_n10 : ∀ a, a < 42 → ∀ b, b < 42 → a ≠ b → (pm_T10 a).2.1 ≠ (pm_T10 b).2.1 := by decide +kernel
theorem pm_d10 : ∀ k, k < 42 → parseFieldDescriptor (pm_T10 k).2.2.1 = some (pm_t10 k) := by decide +kernel
theorem pm_o10 : ∀ k, k < 42 → (pm_T10 k).1 = "PathRunnerModel" := by decide +kernel
theorem pm_w10 : ∀ w ∈ u_ws "PathRunnerModel" pm_T10 42, w ∈ lw_good := by
  intro w hw
  obtain ⟨k, hk, rfl⟩ := List.mem_map.mp hw
  have hk := List.mem_range.mp hk
  rcases (show k = 0 ∨ k = 1 ∨ k = 2 ∨ k = 3 ∨ k = 4 ∨ k = 5 ∨ k = 6 ∨ k = 7 ∨ k = 8 ∨ k = 9 ∨ k = 10 ∨ k = 11 ∨ k = 12 ∨ k = 13 ∨ k = 14 ∨ k = 15 ∨ k = 16 ∨ k = 17 ∨ k = 18 ∨ k = 19 ∨ k = 20 ∨ k = 21 ∨ k = 22 ∨ k = 23 ∨ k = 24 ∨ k = 25 ∨ k = 26 ∨ k = 27 ∨ k = 28 ∨ k = 29 ∨ k = 30 ∨ k = 31 ∨ k = 32 ∨ k = 33 ∨ k = 34 ∨ k = 35 ∨ k = 36 ∨ k = 37 ∨ k = 38 ∨ k = 39 ∨ k = 40 ∨ k = 41 by omega) with rfl | rfl | rfl | rfl | rfl | rfl | rfl | rfl | rfl | rfl | rfl | rfl | rfl | rfl | rfl | rfl | rfl | rfl | rfl | rfl | rfl | rfl | rfl | rfl | rfl | rfl | rfl | rfl | rfl | rfl | rfl | rfl | rfl | rfl | rfl | rfl | rfl | rfl | rfl | rfl | rfl | rfl
  · exact pm_mem (i := 1049) (by decide +kernel) (by decide +kernel)
  · exact pm_mem (i := 1051) (by decide +kernel) (by decide +kernel)
  · exact pm_mem (i := 1053) (by decide +kernel) (by decide +kernel)
  · exact pm_mem (i := 1055) (by decide +kernel) (by decide +kernel)
  · exact pm_mem (i := 1057) (by decide +kernel) (by decide +kernel)
  · exact pm_mem (i := 1059) (by decide +kernel) (by decide +kernel)
  · exact pm_mem (i := 1061) (by decide +kernel) (by decide +kernel)
  · exact pm_mem (i := 1063) (by decide +kernel) (by decide +kernel)
  · exact pm_mem (i := 1065) (by decide +kernel) (by decide +kernel)
  · exact pm_mem (i := 1067) (by decide +kernel) (by decide +kernel)
  · exact pm_mem (i := 1069) (by decide +kernel) (by decide +kernel)
  · exact pm_mem (i := 1071) (by decide +kernel) (by decide +kernel)
  · exact pm_mem (i := 1073) (by decide +kernel) (by decide +kernel)
  · exact pm_mem (i := 1075) (by decide +kernel) (by decide +kernel)
  · exact pm_mem (i := 1077) (by decide +kernel) (by decide +kernel)
  · exact pm_mem (i := 1079) (by decide +kernel) (by decide +kernel)
  · exact pm_mem (i := 1081) (by decide +kernel) (by decide +kernel)
  · exact pm_mem (i := 1083) (by decide +kernel) (by decide +kernel)
  · exact pm_mem (i := 1085) (by decide +kernel) (by decide +kernel)
  · exact pm_mem (i := 1087) (by decide +kernel) (by decide +kernel)
  · exact pm_mem (i := 1089) (by decide +kernel) (by decide +kernel)
  · exact pm_mem (i := 1091) (by decide +kernel) (by decide +kernel)
  · exact pm_mem (i := 1093) (by decide +kernel) (by decide +kernel)
  · exact pm_mem (i := 1095) (by decide +kernel) (by decide +kernel)
  · exact pm_mem (i := 1097) (by decide +kernel) (by decide +kernel)
  · exact pm_mem (i := 1099) (by decide +kernel) (by decide +kernel)
  · exact pm_mem (i := 1101) (by decide +kernel) (by decide +kernel)
  · exact pm_mem (i := 1103) (by decide +kernel) (by decide +kernel)
  · exact pm_mem (i := 1105) (by decide +kernel) (by decide +kernel)
  · exact pm_mem (i := 1107) (by decide +kernel) (by decide +kernel)
  · exact pm_mem (i := 1109) (by decide +kernel) (by decide +kernel)
  · exact pm_mem (i := 1111) (by decide +kernel) (by decide +kernel)
  · exact pm_mem (i := 1113) (by decide +kernel) (by decide +kernel)
  · exact pm_mem (i := 1115) (by decide +kernel) (by decide +kernel)
  · exact pm_mem (i := 1117) (by decide +kernel) (by decide +kernel)
  · exact pm_mem (i := 1119) (by decide +kernel) (by decide +kernel)
  · exact pm_mem (i := 1121) (by decide +kernel) (by decide +kernel)
  · exact pm_mem (i := 1123) (by decide +kernel) (by decide +kernel)
  · exact pm_mem (i := 1125) (by decide +kernel) (by decide +kernel)
  · exact pm_mem (i := 1127) (by decide +kernel) (by decide +kernel)
  · exact pm_mem (i := 1129) (by decide +kernel) (by decide +kernel)
  · exact pm_mem (i := 1131) (by decide +kernel) (by decide +kernel)
theorem pm_i10 : Cond.instantiable "PathRunnerModel" 42 ∈ lw_good ∧ Cond.initialized "PathRunnerModel" ∈ lw_good := ⟨pm_mem (i := 999) (by decide +kernel) (by decide +kernel), pm_mem (i := 65) (by decide +kernel) (by decide +kernel)⟩
def pm_cl : List vw_C := [("PathRunner", pm_T0, 8), ("PathRunner$Formulas", pm_T1, 5), ("PathRunner$Inputs", pm_T2, 1), ("PathRunner$Machine", pm_T3, 2), ("PathRunner$Program", pm_T4, 10), ("PathRunner$Row", pm_T5, 3), ("PathRunner$Search", pm_T6, 18), ("PathRunner$Sharing", pm_T7, 4), ("PathRunner$Tokens", pm_T8, 4), ("PathRunner$Way", pm_T9, 18), ("PathRunnerModel", pm_T10, 42)]
def pm_ty (ci : Nat) : Nat → FieldType := ([pm_t0, pm_t1, pm_t2, pm_t3, pm_t4, pm_t5, pm_t6, pm_t7, pm_t8, pm_t9, pm_t10] : List (Nat → FieldType)).getD ci (fun _ => .int)
/-- what holds of a class of the list -/
def pm_cok (ci : Nat) (q : vw_C) : Prop := (∀ a, a < q.2.2 → ∀ b, b < q.2.2 → a ≠ b → (q.2.1 a).2.1 ≠ (q.2.1 b).2.1) ∧ (∀ k, k < q.2.2 → parseFieldDescriptor (q.2.1 k).2.2.1 = some (pm_ty ci k)) ∧ (∀ k, k < q.2.2 → (q.2.1 k).1 = q.1) ∧ (∀ w ∈ u_ws q.1 q.2.1 q.2.2, w ∈ lw_good) ∧ Cond.instantiable q.1 q.2.2 ∈ lw_good ∧ Cond.initialized q.1 ∈ lw_good
theorem pm_cls : ∀ (ci : Nat) (q : vw_C), pm_cl[ci]? = some q → pm_cok ci q := by
  intro ci q hq
  match ci, hq with
  | 0, hq => cases hq; exact ⟨pm_n0, pm_d0, pm_o0, pm_w0, pm_i0⟩
  | 1, hq => cases hq; exact ⟨pm_n1, pm_d1, pm_o1, pm_w1, pm_i1⟩
  | 2, hq => cases hq; exact ⟨pm_n2, pm_d2, pm_o2, pm_w2, pm_i2⟩
  | 3, hq => cases hq; exact ⟨pm_n3, pm_d3, pm_o3, pm_w3, pm_i3⟩
  | 4, hq => cases hq; exact ⟨pm_n4, pm_d4, pm_o4, pm_w4, pm_i4⟩
  | 5, hq => cases hq; exact ⟨pm_n5, pm_d5, pm_o5, pm_w5, pm_i5⟩
  | 6, hq => cases hq; exact ⟨pm_n6, pm_d6, pm_o6, pm_w6, pm_i6⟩
  | 7, hq => cases hq; exact ⟨pm_n7, pm_d7, pm_o7, pm_w7, pm_i7⟩
  | 8, hq => cases hq; exact ⟨pm_n8, pm_d8, pm_o8, pm_w8, pm_i8⟩
  | 9, hq => cases hq; exact ⟨pm_n9, pm_d9, pm_o9, pm_w9, pm_i9⟩
  | 10, hq => cases hq; exact ⟨pm_n10, pm_d10, pm_o10, pm_w10, pm_i10⟩
  | k + 11, hq => simp [pm_cl] at hq
