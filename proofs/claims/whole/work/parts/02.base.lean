-- classes, their fields; the state and the worlds; calls
def F_Text : u_T := fun k => match k with
  | 0 => ("TinyForge$Text", "characters", "[C", true)
  | _ => ("TinyForge$Text", "length", "I", false)
def t_Text : Nat → FieldType := fun k => match k with
  | 0 => .array .char
  | _ => .int
theorem n_Text : ∀ a, a < 2 → ∀ b, b < 2 → a ≠ b → (F_Text a).2.1 ≠ (F_Text b).2.1 := by decide +kernel
theorem t_Text_ok : ∀ k, k < 2 → parseFieldDescriptor (F_Text k).2.2.1 = some (t_Text k) := by decide +kernel
def F_Refusal : u_T := fun k => match k with
  | 0 => ("TinyForge$Refusal", "reason", "I", false)
  | 1 => ("TinyForge$Refusal", "place", "I", false)
  | _ => ("TinyForge$Refusal", "wrongName", "I", false)
def t_Refusal : Nat → FieldType := fun k => match k with
  | 0 => .int
  | 1 => .int
  | _ => .int
theorem n_Refusal : ∀ a, a < 3 → ∀ b, b < 3 → a ≠ b → (F_Refusal a).2.1 ≠ (F_Refusal b).2.1 := by decide +kernel
theorem t_Refusal_ok : ∀ k, k < 3 → parseFieldDescriptor (F_Refusal k).2.2.1 = some (t_Refusal k) := by decide +kernel
def F_Tokens : u_T := fun k => match k with
  | 0 => ("TinyForge$Tokens", "text", "LTinyForge$Text;", true)
  | 1 => ("TinyForge$Tokens", "refusal", "LTinyForge$Refusal;", true)
  | 2 => ("TinyForge$Tokens", "kinds", "[I", true)
  | 3 => ("TinyForge$Tokens", "places", "[I", true)
  | 4 => ("TinyForge$Tokens", "values", "[J", true)
  | 5 => ("TinyForge$Tokens", "count", "I", false)
  | _ => ("TinyForge$Tokens", "tooMany", "I", false)
def t_Tokens : Nat → FieldType := fun k => match k with
  | 0 => .object "TinyForge$Text"
  | 1 => .object "TinyForge$Refusal"
  | 2 => .array .int
  | 3 => .array .int
  | 4 => .array .long
  | 5 => .int
  | _ => .int
theorem n_Tokens : ∀ a, a < 7 → ∀ b, b < 7 → a ≠ b → (F_Tokens a).2.1 ≠ (F_Tokens b).2.1 := by decide +kernel
theorem t_Tokens_ok : ∀ k, k < 7 → parseFieldDescriptor (F_Tokens k).2.2.1 = some (t_Tokens k) := by decide +kernel
def F_Cursor : u_T := fun k => match k with
  | 0 => ("TinyForge$Cursor", "tokens", "LTinyForge$Tokens;", true)
  | 1 => ("TinyForge$Cursor", "refusal", "LTinyForge$Refusal;", true)
  | 2 => ("TinyForge$Cursor", "at", "I", false)
  | _ => ("TinyForge$Cursor", "open", "I", false)
def t_Cursor : Nat → FieldType := fun k => match k with
  | 0 => .object "TinyForge$Tokens"
  | 1 => .object "TinyForge$Refusal"
  | 2 => .int
  | _ => .int
theorem n_Cursor : ∀ a, a < 4 → ∀ b, b < 4 → a ≠ b → (F_Cursor a).2.1 ≠ (F_Cursor b).2.1 := by decide +kernel
theorem t_Cursor_ok : ∀ k, k < 4 → parseFieldDescriptor (F_Cursor k).2.2.1 = some (t_Cursor k) := by decide +kernel
def F_Variables : u_T := fun k => match k with
  | 0 => ("TinyForge$Variables", "tokens", "LTinyForge$Tokens;", true)
  | 1 => ("TinyForge$Variables", "refusal", "LTinyForge$Refusal;", true)
  | 2 => ("TinyForge$Variables", "names", "[J", true)
  | 3 => ("TinyForge$Variables", "count", "I", false)
  | _ => ("TinyForge$Variables", "startOfBlock", "I", false)
def t_Variables : Nat → FieldType := fun k => match k with
  | 0 => .object "TinyForge$Tokens"
  | 1 => .object "TinyForge$Refusal"
  | 2 => .array .long
  | 3 => .int
  | _ => .int
theorem n_Variables : ∀ a, a < 5 → ∀ b, b < 5 → a ≠ b → (F_Variables a).2.1 ≠ (F_Variables b).2.1 := by decide +kernel
theorem t_Variables_ok : ∀ k, k < 5 → parseFieldDescriptor (F_Variables k).2.2.1 = some (t_Variables k) := by decide +kernel
def F_Globals : u_T := fun k => match k with
  | 0 => ("TinyForge$Globals", "tokens", "LTinyForge$Tokens;", true)
  | 1 => ("TinyForge$Globals", "refusal", "LTinyForge$Refusal;", true)
  | 2 => ("TinyForge$Globals", "names", "[J", true)
  | 3 => ("TinyForge$Globals", "areFunctions", "[Z", true)
  | 4 => ("TinyForge$Globals", "starts", "[I", true)
  | 5 => ("TinyForge$Globals", "sizes", "[I", true)
  | 6 => ("TinyForge$Globals", "count", "I", false)
  | 7 => ("TinyForge$Globals", "arrays", "I", false)
  | _ => ("TinyForge$Globals", "functions", "I", false)
def t_Globals : Nat → FieldType := fun k => match k with
  | 0 => .object "TinyForge$Tokens"
  | 1 => .object "TinyForge$Refusal"
  | 2 => .array .long
  | 3 => .array .boolean
  | 4 => .array .int
  | 5 => .array .int
  | 6 => .int
  | 7 => .int
  | _ => .int
theorem n_Globals : ∀ a, a < 9 → ∀ b, b < 9 → a ≠ b → (F_Globals a).2.1 ≠ (F_Globals b).2.1 := by decide +kernel
theorem t_Globals_ok : ∀ k, k < 9 → parseFieldDescriptor (F_Globals k).2.2.1 = some (t_Globals k) := by decide +kernel
def F_Program : u_T := fun k => match k with
  | 0 => ("TinyForge$Program", "codes", "[I", true)
  | 1 => ("TinyForge$Program", "operands", "[I", true)
  | 2 => ("TinyForge$Program", "sizes", "[I", true)
  | 3 => ("TinyForge$Program", "length", "I", false)
  | _ => ("TinyForge$Program", "start", "I", false)
def t_Program : Nat → FieldType := fun k => match k with
  | 0 => .array .int
  | 1 => .array .int
  | 2 => .array .int
  | 3 => .int
  | _ => .int
theorem n_Program : ∀ a, a < 5 → ∀ b, b < 5 → a ≠ b → (F_Program a).2.1 ≠ (F_Program b).2.1 := by decide +kernel
theorem t_Program_ok : ∀ k, k < 5 → parseFieldDescriptor (F_Program k).2.2.1 = some (t_Program k) := by decide +kernel
def F_Grammar : u_T := fun k => match k with
  | 0 => ("TinyForge$Grammar", "cursor", "LTinyForge$Cursor;", true)
  | 1 => ("TinyForge$Grammar", "variables", "LTinyForge$Variables;", true)
  | 2 => ("TinyForge$Grammar", "globals", "LTinyForge$Globals;", true)
  | _ => ("TinyForge$Grammar", "program", "LTinyForge$Program;", true)
def t_Grammar : Nat → FieldType := fun k => match k with
  | 0 => .object "TinyForge$Cursor"
  | 1 => .object "TinyForge$Variables"
  | 2 => .object "TinyForge$Globals"
  | _ => .object "TinyForge$Program"
theorem n_Grammar : ∀ a, a < 4 → ∀ b, b < 4 → a ≠ b → (F_Grammar a).2.1 ≠ (F_Grammar b).2.1 := by decide +kernel
theorem t_Grammar_ok : ∀ k, k < 4 → parseFieldDescriptor (F_Grammar k).2.2.1 = some (t_Grammar k) := by decide +kernel
def F_Input : u_T := fun k => match k with
  | 0 => ("TinyForge$Input", "numbers", "[I", true)
  | 1 => ("TinyForge$Input", "count", "I", false)
  | _ => ("TinyForge$Input", "next", "I", false)
def t_Input : Nat → FieldType := fun k => match k with
  | 0 => .array .int
  | 1 => .int
  | _ => .int
theorem n_Input : ∀ a, a < 3 → ∀ b, b < 3 → a ≠ b → (F_Input a).2.1 ≠ (F_Input b).2.1 := by decide +kernel
theorem t_Input_ok : ∀ k, k < 3 → parseFieldDescriptor (F_Input k).2.2.1 = some (t_Input k) := by decide +kernel
def F_Machine : u_T := fun k => match k with
  | 0 => ("TinyForge$Machine", "program", "LTinyForge$Program;", true)
  | 1 => ("TinyForge$Machine", "input", "LTinyForge$Input;", true)
  | 2 => ("TinyForge$Machine", "stack", "[I", true)
  | 3 => ("TinyForge$Machine", "elements", "[I", true)
  | 4 => ("TinyForge$Machine", "returns", "[I", true)
  | 5 => ("TinyForge$Machine", "bases", "[I", true)
  | 6 => ("TinyForge$Machine", "output", "[I", true)
  | 7 => ("TinyForge$Machine", "top", "I", false)
  | 8 => ("TinyForge$Machine", "base", "I", false)
  | 9 => ("TinyForge$Machine", "calls", "I", false)
  | 10 => ("TinyForge$Machine", "at", "I", false)
  | 11 => ("TinyForge$Machine", "state", "I", false)
  | 12 => ("TinyForge$Machine", "outputs", "I", false)
  | 13 => ("TinyForge$Machine", "ticks", "I", false)
  | _ => ("TinyForge$Machine", "result", "I", false)
def t_Machine : Nat → FieldType := fun k => match k with
  | 0 => .object "TinyForge$Program"
  | 1 => .object "TinyForge$Input"
  | 2 => .array .int
  | 3 => .array .int
  | 4 => .array .int
  | 5 => .array .int
  | 6 => .array .int
  | 7 => .int
  | 8 => .int
  | 9 => .int
  | 10 => .int
  | 11 => .int
  | 12 => .int
  | 13 => .int
  | _ => .int
theorem n_Machine : ∀ a, a < 15 → ∀ b, b < 15 → a ≠ b → (F_Machine a).2.1 ≠ (F_Machine b).2.1 := by decide +kernel
theorem t_Machine_ok : ∀ k, k < 15 → parseFieldDescriptor (F_Machine k).2.2.1 = some (t_Machine k) := by decide +kernel
def F_Forge : u_T := fun k => match k with
  | 0 => ("TinyForge", "text", "LTinyForge$Text;", true)
  | 1 => ("TinyForge", "tokens", "LTinyForge$Tokens;", true)
  | 2 => ("TinyForge", "refusal", "LTinyForge$Refusal;", true)
  | 3 => ("TinyForge", "globals", "LTinyForge$Globals;", true)
  | 4 => ("TinyForge", "program", "LTinyForge$Program;", true)
  | 5 => ("TinyForge", "grammar", "LTinyForge$Grammar;", true)
  | 6 => ("TinyForge", "input", "LTinyForge$Input;", true)
  | 7 => ("TinyForge", "machine", "LTinyForge$Machine;", true)
  | _ => ("TinyForge", "forged", "Z", false)
def t_Forge : Nat → FieldType := fun k => match k with
  | 0 => .object "TinyForge$Text"
  | 1 => .object "TinyForge$Tokens"
  | 2 => .object "TinyForge$Refusal"
  | 3 => .object "TinyForge$Globals"
  | 4 => .object "TinyForge$Program"
  | 5 => .object "TinyForge$Grammar"
  | 6 => .object "TinyForge$Input"
  | 7 => .object "TinyForge$Machine"
  | _ => .boolean
theorem n_Forge : ∀ a, a < 9 → ∀ b, b < 9 → a ≠ b → (F_Forge a).2.1 ≠ (F_Forge b).2.1 := by decide +kernel
theorem t_Forge_ok : ∀ k, k < 9 → parseFieldDescriptor (F_Forge k).2.2.1 = some (t_Forge k) := by decide +kernel
def F_Model : u_T := fun k => match k with
  | 0 => ("TinyForgeModel", "refusal", "I", false)
  | 1 => ("TinyForgeModel", "text", "[C", false)
  | 2 => ("TinyForgeModel", "length", "I", false)
  | 3 => ("TinyForgeModel", "tokens", "I", false)
  | 4 => ("TinyForgeModel", "why", "I", false)
  | 5 => ("TinyForgeModel", "where", "I", false)
  | 6 => ("TinyForgeModel", "at", "I", false)
  | 7 => ("TinyForgeModel", "open", "I", false)
  | 8 => ("TinyForgeModel", "fault", "I", false)
  | 9 => ("TinyForgeModel", "kind", "[I", false)
  | 10 => ("TinyForgeModel", "place", "[I", false)
  | 11 => ("TinyForgeModel", "size", "[I", false)
  | 12 => ("TinyForgeModel", "number", "[I", false)
  | 13 => ("TinyForgeModel", "nodes", "I", false)
  | 14 => ("TinyForgeModel", "sort", "[I", false)
  | 15 => ("TinyForgeModel", "what", "[I", false)
  | 16 => ("TinyForgeModel", "one", "[I", false)
  | 17 => ("TinyForgeModel", "two", "[I", false)
  | 18 => ("TinyForgeModel", "three", "[I", false)
  | 19 => ("TinyForgeModel", "next", "[I", false)
  | 20 => ("TinyForgeModel", "token", "[I", false)
  | 21 => ("TinyForgeModel", "globals", "I", false)
  | 22 => ("TinyForgeModel", "functions", "I", false)
  | 23 => ("TinyForgeModel", "arrays", "I", false)
  | 24 => ("TinyForgeModel", "globalName", "[I", false)
  | 25 => ("TinyForgeModel", "isFunction", "[Z", false)
  | 26 => ("TinyForgeModel", "many", "[I", false)
  | 27 => ("TinyForgeModel", "body", "[I", false)
  | 28 => ("TinyForgeModel", "variables", "I", false)
  | 29 => ("TinyForgeModel", "deep", "I", false)
  | 30 => ("TinyForgeModel", "variableName", "[I", false)
  | 31 => ("TinyForgeModel", "level", "[I", false)
  | 32 => ("TinyForgeModel", "operands", "[I", false)
  | 33 => ("TinyForgeModel", "operandCount", "I", false)
  | 34 => ("TinyForgeModel", "waiting", "I", false)
  | 35 => ("TinyForgeModel", "arounds", "I", false)
  | 36 => ("TinyForgeModel", "waits", "[I", false)
  | 37 => ("TinyForgeModel", "waitsFor", "[I", false)
  | 38 => ("TinyForgeModel", "around", "[I", false)
  | 39 => ("TinyForgeModel", "forged", "Z", false)
  | 40 => ("TinyForgeModel", "main", "I", false)
  | 41 => ("TinyForgeModel", "inputs", "I", false)
  | 42 => ("TinyForgeModel", "taken", "I", false)
  | 43 => ("TinyForgeModel", "outs", "I", false)
  | 44 => ("TinyForgeModel", "depth", "I", false)
  | 45 => ("TinyForgeModel", "valueCount", "I", false)
  | 46 => ("TinyForgeModel", "calls", "I", false)
  | 47 => ("TinyForgeModel", "ticks", "I", false)
  | 48 => ("TinyForgeModel", "ending", "I", false)
  | 49 => ("TinyForgeModel", "given", "I", false)
  | 50 => ("TinyForgeModel", "input", "[I", false)
  | 51 => ("TinyForgeModel", "out", "[I", false)
  | 52 => ("TinyForgeModel", "cells", "[I", false)
  | 53 => ("TinyForgeModel", "bank", "[I", false)
  | 54 => ("TinyForgeModel", "begun", "[I", false)
  | 55 => ("TinyForgeModel", "stage", "[I", false)
  | _ => ("TinyForgeModel", "values", "[I", false)
def t_Model : Nat → FieldType := fun k => match k with
  | 0 => .int
  | 1 => .array .char
  | 2 => .int
  | 3 => .int
  | 4 => .int
  | 5 => .int
  | 6 => .int
  | 7 => .int
  | 8 => .int
  | 9 => .array .int
  | 10 => .array .int
  | 11 => .array .int
  | 12 => .array .int
  | 13 => .int
  | 14 => .array .int
  | 15 => .array .int
  | 16 => .array .int
  | 17 => .array .int
  | 18 => .array .int
  | 19 => .array .int
  | 20 => .array .int
  | 21 => .int
  | 22 => .int
  | 23 => .int
  | 24 => .array .int
  | 25 => .array .boolean
  | 26 => .array .int
  | 27 => .array .int
  | 28 => .int
  | 29 => .int
  | 30 => .array .int
  | 31 => .array .int
  | 32 => .array .int
  | 33 => .int
  | 34 => .int
  | 35 => .int
  | 36 => .array .int
  | 37 => .array .int
  | 38 => .array .int
  | 39 => .boolean
  | 40 => .int
  | 41 => .int
  | 42 => .int
  | 43 => .int
  | 44 => .int
  | 45 => .int
  | 46 => .int
  | 47 => .int
  | 48 => .int
  | 49 => .int
  | 50 => .array .int
  | 51 => .array .int
  | 52 => .array .int
  | 53 => .array .int
  | 54 => .array .int
  | 55 => .array .int
  | _ => .array .int
theorem n_Model : ∀ a, a < 57 → ∀ b, b < 57 → a ≠ b → (F_Model a).2.1 ≠ (F_Model b).2.1 := by decide +kernel
theorem t_Model_ok : ∀ k, k < 57 → parseFieldDescriptor (F_Model k).2.2.1 = some (t_Model k) := by decide +kernel
abbrev vwCl : List vw_C := [("TinyForge$Text", F_Text, 2), ("TinyForge$Refusal", F_Refusal, 3), ("TinyForge$Tokens", F_Tokens, 7), ("TinyForge$Cursor", F_Cursor, 4), ("TinyForge$Variables", F_Variables, 5), ("TinyForge$Globals", F_Globals, 9), ("TinyForge$Program", F_Program, 5), ("TinyForge$Grammar", F_Grammar, 4), ("TinyForge$Input", F_Input, 3), ("TinyForge$Machine", F_Machine, 15), ("TinyForge", F_Forge, 9), ("TinyForgeModel", F_Model, 57)]
def strs : List (String × Nat × String × List Int32) := [("TinyForge$Tokens", 83, "int", [105, 110, 116]), ("TinyForge$Tokens", 89, "if", [105, 102]), ("TinyForge$Tokens", 91, "else", [101, 108, 115, 101]), ("TinyForge$Tokens", 93, "while", [119, 104, 105, 108, 101]), ("TinyForge$Tokens", 95, "return", [114, 101, 116, 117, 114, 110]), ("TinyForge$Tokens", 97, "read", [114, 101, 97, 100]), ("TinyForge$Tokens", 99, "print", [112, 114, 105, 110, 116]), ("TinyForge$Tokens", 109, "+-*/%!~<>=(){}[],;", [43, 45, 42, 47, 37, 33, 126, 60, 62, 61, 40, 41, 123, 125, 91, 93, 44, 59]), ("TinyForge$Globals", 97, "main", [109, 97, 105, 110])]
def BIG : List Cond := lw_tbl.filter goodWord
theorem big_in {ws : List Cond} (ps : List Nat) (h1 : ws = ps.filterMap (fun i => lw_tbl[i]?)) (h2 : ws.all goodWord = true) : ∀ w ∈ ws, w ∈ BIG := by
  intro w hw
  refine List.mem_filter.mpr ⟨?_, List.all_eq_true.mp h2 w hw⟩
  rw [h1] at hw
  obtain ⟨i, -, hi⟩ := List.mem_filterMap.mp hw
  exact List.mem_of_getElem? hi
/-! State of a family of singletons: ints, longs, arrays of ints, arrays of longs; what the generated functions and contracts are made of. -/
abbrev St : Type := (Nat → Int32) × (Nat → Int64) × (Nat → Nat → Int32) × (Nat → Nat → Int64)
def sI (σ : St) (k : Nat) (v : Int32) : St := (fun j => if j = k then v else σ.1 j, σ.2.1, σ.2.2.1, σ.2.2.2)
def sJ (σ : St) (k : Nat) (v : Int64) : St := (σ.1, fun j => if j = k then v else σ.2.1 j, σ.2.2.1, σ.2.2.2)
def sA (σ : St) (k : Nat) (f : Nat → Int32) : St := (σ.1, σ.2.1, fun j => if j = k then f else σ.2.2.1 j, σ.2.2.2)
def sL (σ : St) (k : Nat) (f : Nat → Int64) : St := (σ.1, σ.2.1, σ.2.2.1, fun j => if j = k then f else σ.2.2.2 j)
def gd {β : Type} (b : Bool) (k : Option β) : Option β := match b with
  | true => k
  | false => none
theorem gdE {β : Type} {b : Bool} {k : Option β} {F : β} (h : gd b k = some F) : b = true ∧ k = some F := by
  cases b with
  | true => exact ⟨rfl, h⟩
  | false => cases h
def b1 {α β : Type} (o : Option α) (k : α → Option β) : Option β := match o with
  | some a => k a
  | none => none
theorem b1E {α β : Type} {o : Option α} {k : α → Option β} {F : β} (h : b1 o k = some F) : ∃ a, o = some a ∧ k a = some F := by
  cases o with
  | some a => exact ⟨a, rfl, h⟩
  | none => cases h
def b2 {α γ β : Type} (o : Option (α × γ)) (k : α → γ → Option β) : Option β := match o with
  | some a => k a.1 a.2
  | none => none
theorem b2E {α γ β : Type} {o : Option (α × γ)} {k : α → γ → Option β} {F : β} (h : b2 o k = some F) : ∃ (a : α) (u : γ), o = some (a, u) ∧ k a u = some F := by
  cases o with
  | some a => exact ⟨a.1, a.2, rfl, h⟩
  | none => cases h
theorem ifp {α : Type} {c : Prop} [Decidable c] {a b F : α} (h : (if c then a else b) = F) (hc : c) : a = F := by rw [if_pos hc] at h; exact h
theorem ifn {α : Type} {c : Prop} [Decidable c] {a b F : α} (h : (if c then a else b) = F) (hc : ¬ c) : b = F := by rw [if_neg hc] at h; exact h
def inB (i : Int32) (n : Nat) : Bool := !(decide (i < 0) || decide (n ≤ i.toNatClampNeg))
theorem inE {i : Int32} {n : Nat} (h : inB i n = true) : vp_in i n := by
  unfold inB at h
  intro q
  rcases q with q | q <;> simp [q] at h
def nz0 (y : Int32) : Bool := !(decide (y = 0))
theorem nz0E {y : Int32} (h : nz0 y = true) : ¬ y = 0 := by
  intro q
  simp [nz0, q] at h
def nZ (v : Int32) : Bool := decide (v = 0) || decide (v = 1)
theorem nZN {v : Int32} (h : nZ v = true) : narrow .boolean (.int v) = .int v := by
  simp only [nZ, Bool.or_eq_true, decide_eq_true_eq] at h
  rcases h with rfl | rfl <;> decide
theorem nZF {v : Int32} (h : nZ v = true) : fits .boolean (.int v) = true := by
  simp only [nZ, Bool.or_eq_true, decide_eq_true_eq] at h
  rcases h with rfl | rfl <;> decide
def nC (v : Int32) : Bool := decide (0 ≤ v.toInt) && decide (v.toInt < 65536)
theorem nC_q {v : Int32} (h : nC v = true) : ∃ q : Nat, q < 65536 ∧ v = nI q := by
  simp only [nC, Bool.and_eq_true, decide_eq_true_eq] at h
  refine ⟨v.toInt.toNat, by omega, ?_⟩
  apply Int32.toInt_inj.mp
  rw [nI_toInt (by omega)]
  omega
theorem nCN {v : Int32} (h : nC v = true) : narrow .char (.int v) = .int v := by
  obtain ⟨q, hq, rfl⟩ := nC_q h
  exact (pk_charN hq).1
theorem nCF {v : Int32} (h : nC v = true) : fits .char (.int v) = true := by
  obtain ⟨q, hq, rfl⟩ := nC_q h
  exact (pk_charN hq).2
theorem big_all {ws : va_W} : (List.range ws.length).map (fun i => ws[i]?) = ws.map some := by
  apply List.ext_getElem?
  intro i
  by_cases h : i < ws.length
  · simp [h]
  · simp [h]
def sB (i : Nat) : Bool := decide (i < strs.length)
theorem sBE {i : Nat} (h : sB i = true) : i < strs.length := of_decide_eq_true h
def sLen (i : Nat) : Nat := (strs.map fun q => q.2.2.2.length).getD i 0
def sByte (i j : Nat) : Int32 := ((strs.map fun q => q.2.2.2).getD i []).getD j 0
theorem i_Text : ∀ w ∈ u_ws "TinyForge$Text" F_Text 2, w ∈ BIG := big_in [164, 166] (by decide +kernel) (by decide +kernel)
theorem i_Refusal : ∀ w ∈ u_ws "TinyForge$Refusal" F_Refusal 3, w ∈ BIG := big_in [181, 183, 185] (by decide +kernel) (by decide +kernel)
theorem i_Tokens : ∀ w ∈ u_ws "TinyForge$Tokens" F_Tokens 7, w ∈ BIG := big_in [202, 204, 206, 208, 210, 212, 214] (by decide +kernel) (by decide +kernel)
theorem i_Cursor : ∀ w ∈ u_ws "TinyForge$Cursor" F_Cursor 4, w ∈ BIG := big_in [321, 323, 325, 327] (by decide +kernel) (by decide +kernel)
theorem i_Variables : ∀ w ∈ u_ws "TinyForge$Variables" F_Variables 5, w ∈ BIG := big_in [299, 301, 303, 305, 307] (by decide +kernel) (by decide +kernel)
theorem i_Globals : ∀ w ∈ u_ws "TinyForge$Globals" F_Globals 9, w ∈ BIG := big_in [235, 237, 239, 241, 243, 245, 247, 249, 251] (by decide +kernel) (by decide +kernel)
theorem i_Program : ∀ w ∈ u_ws "TinyForge$Program" F_Program 5, w ∈ BIG := big_in [277, 279, 281, 283, 285] (by decide +kernel) (by decide +kernel)
theorem i_Grammar : ∀ w ∈ u_ws "TinyForge$Grammar" F_Grammar 4, w ∈ BIG := big_in [340, 342, 344, 346] (by decide +kernel) (by decide +kernel)
theorem i_Input : ∀ w ∈ u_ws "TinyForge$Input" F_Input 3, w ∈ BIG := big_in [360, 362, 364] (by decide +kernel) (by decide +kernel)
theorem i_Machine : ∀ w ∈ u_ws "TinyForge$Machine" F_Machine 15, w ∈ BIG := big_in [391, 393, 395, 397, 399, 401, 403, 405, 407, 409, 411, 413, 415, 417, 419] (by decide +kernel) (by decide +kernel)
theorem i_Forge : ∀ w ∈ u_ws "TinyForge" F_Forge 9, w ∈ BIG := big_in [431, 433, 435, 437, 439, 441, 443, 445, 447] (by decide +kernel) (by decide +kernel)
theorem i_Model : ∀ w ∈ u_ws "TinyForgeModel" F_Model 57, w ∈ BIG := big_in [1197, 1199, 1201, 1203, 1205, 1207, 1209, 1211, 1213, 1215, 1217, 1219, 1221, 1223, 1225, 1227, 1229, 1231, 1233, 1235, 1237, 1239, 1241, 1243, 1245, 1247, 1249, 1251, 1253, 1255, 1257, 1259, 1261, 1263, 1265, 1267, 1269, 1271, 1273, 1275, 1277, 1279, 1281, 1283, 1285, 1287, 1289, 1291, 1293, 1295, 1297, 1299, 1301, 1303, 1305, 1307, 1309] (by decide +kernel) (by decide +kernel)
def SX (ad : Nat → Nat) (A : Nat → Prop) (U : State) (H : Heap) : Prop := vk_S strs.length (strs.map fun q => q.2.2.2.length) (strs.map fun q => q.2.2.2) (fun i => ad (100 + i)) (fun i => ad (200 + i)) A U H ∧ (∀ (i : Nat) (q : String × Nat × String × List Int32), strs[i]? = some q → vk_R q.1 q.2.1 q.2.2.1 (ad (100 + i)) U) ∧ va_Z "java/lang/String" "COMPACT_STRINGS" "Z" (.int 1) A U H ∧ ∃ v : Value, (v = .null ∨ ∃ t : Nat, v = .ref t) ∧ va_Z "jdk/internal/util/Preconditions" "SIOOBE_FORMATTER" "Ljava/util/function/BiFunction;" v A U H
theorem SX.same {ad : Nat → Nat} {A : Nat → Prop} {u U : State} {H : Heap} (hv : u.vm = U.vm) (h : SX ad A u H) : SX ad A U H := by
  have hal : u.vm.Alike U.vm := by rw [hv]; exact Vm.Alike.refl _
  obtain ⟨v, h1, h2⟩ := h.2.2.2
  exact ⟨h.1.moved hal, fun i q hq => (h.2.1 i q hq).same hv.symm, h.2.2.1.moved hal, v, h1, h2.moved hal⟩
theorem SX.now {ad : Nat → Nat} {A B : Nat → Prop} {s U : State} {H : Heap} {locs : List Loc} (hS : va_S A s.heap H locs) (hAB : ∀ q, B q → A q) (hU : U.heap = H) (hW : s.WarmedH U.vm) (h : SX ad A s s.heap) : SX ad B U U.heap := by
  rw [hU]
  obtain ⟨v, h1, h2⟩ := h.2.2.2
  exact ⟨((h.1.kept hS.2.1).narrow hAB).moved hW.alike, fun i q hq => (h.2.1 i q hq).warm hW, ((h.2.2.1.kept hS.2.1).narrow hAB).moved hW.alike, v, h1, ((h2.kept hS.2.1).narrow hAB).moved hW.alike⟩
def Cx (p : Program) (s : State) (m : MethodId) (args : Array Value) (meth : Method) (c : Code) (cc : ByteArray) (maxL : Nat) (ret : Option FieldType) (own : String) (D : va_G) (tys : List (ClassId × FieldType)) (ad : Nat → Nat) (A : Nat → Prop) : Prop :=
  p.tables.exec = Jvm.exec ∧ c.code = cc ∧ meth.sig.returnType = ret ∧ c.maxLocals = maxL ∧ s.vm.findClass own = some m.cls ∧ meth.locks = false ∧ (∀ w ∈ BIG, w.before args s = true) ∧ (∀ q : Nat, s.heap.size ≤ q → A q) ∧ va_K D vwCl tys s ∧ SX ad A s s.heap
def wPc (D : va_G) (tys : List (ClassId × FieldType)) (ad : Nat → Nat) (cw : St → va_W) (av : List Value) (σ : St) (sz : Nat) : Array Value → State → Prop :=
  va_Pc av (fun U => U.heap.size = sz ∧ va_P D vwCl (cw σ) U.heap ∧ va_K D vwCl tys U ∧ va_D (fun _ => True) (cw σ) ∧ SX ad (va_A (cw σ) sz) U U.heap)
def wB (D : va_G) (tys : List (ClassId × FieldType)) (cw : St → va_W) (A : Nat → Prop) (u : St) (t : State) : Prop := va_P D vwCl (cw u) t.heap ∧ va_K D vwCl tys t ∧ va_D A (cw u)
def QI (D : va_G) (tys : List (ClassId × FieldType)) (cw : St → va_W) (A : Nat → Prop) (r : Int32) (σ' : St) : Array Value → State → Outcome → State → Prop := va_Qi (fun r1 u => r1 = r ∧ u = σ') (wB D tys cw A) A
def QJ (D : va_G) (tys : List (ClassId × FieldType)) (cw : St → va_W) (A : Nat → Prop) (r : Int64) (σ' : St) : Array Value → State → Outcome → State → Prop := va_Ql (fun r1 u => r1 = r ∧ u = σ') (wB D tys cw A) A
def QV (D : va_G) (tys : List (ClassId × FieldType)) (cw : St → va_W) (A : Nat → Prop) (σ' : St) : Array Value → State → Outcome → State → Prop := va_Qv (fun u => u = σ') (wB D tys cw A) A
def MI (l : Launch) (y : MethodName) (cc : ByteArray) (maxL : Nat) (ret : Option FieldType) (rm : Room) (D : va_G) (tys : List (ClassId × FieldType)) (ad : Nat → Nat) (cw : St → va_W) (av : List Value) (σ : St) (sz : Nat) (r : Int32) (σ' : St) : Prop :=
  Met l y (Cond.code y cc maxL ret :: BIG) rm (wPc D tys ad cw av σ sz) (QI D tys cw (va_A (cw σ) sz) r σ') 0 0 (va_A (cw σ) sz)
def MJ (l : Launch) (y : MethodName) (cc : ByteArray) (maxL : Nat) (ret : Option FieldType) (rm : Room) (D : va_G) (tys : List (ClassId × FieldType)) (ad : Nat → Nat) (cw : St → va_W) (av : List Value) (σ : St) (sz : Nat) (r : Int64) (σ' : St) : Prop :=
  Met l y (Cond.code y cc maxL ret :: BIG) rm (wPc D tys ad cw av σ sz) (QJ D tys cw (va_A (cw σ) sz) r σ') 0 0 (va_A (cw σ) sz)
def MV (l : Launch) (y : MethodName) (cc : ByteArray) (maxL : Nat) (ret : Option FieldType) (rm : Room) (D : va_G) (tys : List (ClassId × FieldType)) (ad : Nat → Nat) (cw : St → va_W) (av : List Value) (σ : St) (sz : Nat) (σ' : St) : Prop :=
  Met l y (Cond.code y cc maxL ret :: BIG) rm (wPc D tys ad cw av σ sz) (QV D tys cw (va_A (cw σ) sz) σ') 0 0 (va_A (cw σ) sz)
def LkB (own : String) (idx : Nat) (y : MethodName) (cc : ByteArray) (maxL : Nat) (ret : Option FieldType) (n : Nat) : Prop :=
  Cond.methodLink own idx y ∈ BIG ∧ Cond.initialized y.cls ∈ BIG ∧ Cond.code y cc maxL ret ∈ BIG ∧ (y.cls ≠ "java/lang/invoke/MethodHandle" ∧ y.cls ≠ "java/lang/invoke/VarHandle" ∧ (parseMethodDescriptor y.desc).map (fun d => d.parameters.length) = some n)
def LkV (own : String) (idx : Nat) (C : String) (y : MethodName) (cc : ByteArray) (maxL : Nat) (ret : Option FieldType) (n : Nat) : Prop :=
  LkB own idx y cc maxL ret n ∧ Cond.instanceMethod y ∈ BIG ∧ Cond.selects C y y ∈ BIG
def LkS (own : String) (idx : Nat) (y : MethodName) (cc : ByteArray) (maxL : Nat) (ret : Option FieldType) (n : Nat) : Prop :=
  LkB own idx y cc maxL ret n ∧ Cond.static y ∈ BIG
def RmOk (rm R : Room) (maxL : Nat) : Prop := rm.cells = 0 ∧ rm.slots = 0 ∧ rm.frames + 1 ≤ R.frames ∧ 8 + (maxL + 11) + rm.locals ≤ R.locals
theorem big_good : ∀ w ∈ BIG, goodWord w = true := fun w h => (List.mem_filter.mp h).2
theorem big_tbl : ∀ w ∈ BIG, w ∈ lw_tbl := fun w h => (List.mem_filter.mp h).1
theorem good_big {y : MethodName} {cc : ByteArray} {maxL : Nat} {ret : Option FieldType} (h : Cond.code y cc maxL ret ∈ BIG) : GoodIn BIG (Cond.code y cc maxL ret :: BIG) := by
  intro w hw
  have hm : w ∈ BIG := by
    rcases List.mem_cons.mp hw with e | e
    · rw [e]; exact h
    · exact e
  exact ⟨hm, good_of_word (big_good w hm)⟩
section BC
variable {p : Program} {l : Launch} {e : Env} {R : Room} {s : State} {m : MethodId} {args : Array Value} {below : List Frame} {meth : Method} {c : Code} {H : Heap} {locs : List Loc} {Q : State → Prop}
variable {cc ccy : ByteArray} {maxL maxLy idx n pc : Nat} {ret rety : Option FieldType} {own C : String} {D : va_G} {tys : List (ClassId × FieldType)} {ad : Nat → Nat} {A : Nat → Prop} {cw : St → va_W} {σ σ' : St} {y : MethodName} {rm : Room} {As rest st : List Value} {ls : Array Slot} {b : Nat}
theorem lkB_of (hts : ∀ w ∈ BIG, w.before args s = true) (lk : LkB own idx y ccy maxLy rety n) (hR : RmOk rm R maxLy) : CallB R s args own idx y ccy maxLy rety (Cond.code y ccy maxLy rety :: BIG) rm 0 0 n := by
  obtain ⟨h1, h2, h3, h4⟩ := lk
  obtain ⟨r1, r2, r3, r4⟩ := hR
  exact callB_of n hts (good_big h3) rfl r1 r2 (hts _ h2) (hts _ h1) h4 ⟨r3, r4⟩
theorem wPc_blind {av : List Value} {sz : Nat} : FrameBlind (wPc D tys ad cw av σ sz) := by
  intro a U g mk q
  obtain ⟨q0, q1, qP, qK, qD, qN⟩ := q
  exact ⟨q0, q1, qP, va_K.moved (u := U) (U := U.calling g mk a) (Vm.Alike.refl U.vm) qK, qD, SX.same (u := U) (U := U.calling g mk a) rfl qN⟩
theorem wPc_now (X : Cx p s m args meth c cc maxL ret own D tys ad A) (hP : va_P D vwCl (cw σ) H) (hD : va_D A (cw σ)) (hS : va_S A s.heap H locs) {av : List Value} (U : State) (hU : U.heap = H) (hW : s.WarmedH U.vm) : wPc D tys ad cw av σ H.size av.toArray U := by
  obtain ⟨hx, hb, hr, hml, hown, hlocks, hts, hA, hK, hZ⟩ := X
  exact ⟨rfl, by rw [hU], by rw [hU]; exact hP, va_K.moved hW.alike hK, hD.weaken (fun _ _ _ _ => trivial), SX.now hS (va_free (wc := cw σ) hD hS hA (List.range (cw σ).length) big_all) hU hW hZ⟩
theorem wfree (X : Cx p s m args meth c cc maxL ret own D tys ad A) (hD : va_D A (cw σ)) (hS : va_S A s.heap H locs) : ∀ q, va_A (cw σ) H.size q → A q := by
  obtain ⟨hx, hb, hr, hml, hown, hlocks, hts, hA, hK, hZ⟩ := X
  exact va_free (wc := cw σ) hD hS hA (List.range (cw σ).length) big_all
theorem callVI {r : Int32} {T9 : u_T} {N9 : Nat} {fs : List Value} {ci : Nat} (X : Cx p s m args meth c cc maxL ret own D tys ad A) (hM : MI l y ccy maxLy rety rm D tys ad cw (.ref b :: As) σ H.size r σ') (lk : LkV own idx C y ccy maxLy rety n) (hR : RmOk rm R maxLy)
    (q0 : Nat) (he : (cw σ)[q0]? = some (b, .inr (ci, fs))) (hc : vwCl[ci]? = some (C, T9, N9)) (hP : va_P D vwCl (cw σ) H) (hD : va_D A (cw σ)) (hS : va_S A s.heap H locs) (hsz : ls.size = maxL) (hst : st = As.reverse ++ .ref b :: rest) (hn : As.length = n) (hW : (rest.map fun v => v.category).sum ≤ 8) (d : decode cc pc = .ok (.invokevirtual idx, 3))
    (kk : ∀ (H1 : Heap) (locs1 : List Loc), va_P D vwCl (cw σ') H1 → va_D A (cw σ') → va_S A s.heap H1 locs1 → W p l e R s m args below meth c H1 locs1 0 0 Q (F0 m (pc + 3) ls (.int r :: rest))) : W p l e R s m args below meth c H locs 0 0 Q (F0 m pc ls st) := by
  have hFc := wfree X hD hS
  obtain ⟨hx, hb, hr, hml, hown, hlocks, hts, hA, hK, hZ⟩ := id X
  refine va_calli (va_runV (As := As) (rest := rest) (C := C) ⟨hx, hb, hml, hown, hts⟩ hM ⟨lkB_of hts lk.1 hR, hts _ lk.2.1, hts _ lk.2.2⟩ ⟨wPc_blind, va_recv hK hP hc he, fun U hU hW => wPc_now X hP hD hS U hU hW⟩ rfl hn hsz hst (lv_room hW) d ⟨Nat.zero_le _, Nat.zero_le _⟩) hS (fun q _ h => hFc q h) hFc (fun r u t H1 locs1 ht hvm hw hB hz1 hk1 hS1 => ?_)
  obtain ⟨rfl, rfl⟩ := hw
  obtain ⟨hP1, hK1, hD1⟩ := hB
  rw [ht] at hP1
  exact kk H1 locs1 hP1 (hD1.weaken (fun k q _ h => hFc q.1 h)) hS1
theorem callVJ {r : Int64} {T9 : u_T} {N9 : Nat} {fs : List Value} {ci : Nat} (X : Cx p s m args meth c cc maxL ret own D tys ad A) (hM : MJ l y ccy maxLy rety rm D tys ad cw (.ref b :: As) σ H.size r σ') (lk : LkV own idx C y ccy maxLy rety n) (hR : RmOk rm R maxLy)
    (q0 : Nat) (he : (cw σ)[q0]? = some (b, .inr (ci, fs))) (hc : vwCl[ci]? = some (C, T9, N9)) (hP : va_P D vwCl (cw σ) H) (hD : va_D A (cw σ)) (hS : va_S A s.heap H locs) (hsz : ls.size = maxL) (hst : st = As.reverse ++ .ref b :: rest) (hn : As.length = n) (hW : (rest.map fun v => v.category).sum ≤ 8) (d : decode cc pc = .ok (.invokevirtual idx, 3))
    (kk : ∀ (H1 : Heap) (locs1 : List Loc), va_P D vwCl (cw σ') H1 → va_D A (cw σ') → va_S A s.heap H1 locs1 → W p l e R s m args below meth c H1 locs1 0 0 Q (F0 m (pc + 3) ls (.long r :: rest))) : W p l e R s m args below meth c H locs 0 0 Q (F0 m pc ls st) := by
  have hFc := wfree X hD hS
  obtain ⟨hx, hb, hr, hml, hown, hlocks, hts, hA, hK, hZ⟩ := id X
  refine va_calll (va_runV (As := As) (rest := rest) (C := C) ⟨hx, hb, hml, hown, hts⟩ hM ⟨lkB_of hts lk.1 hR, hts _ lk.2.1, hts _ lk.2.2⟩ ⟨wPc_blind, va_recv hK hP hc he, fun U hU hW => wPc_now X hP hD hS U hU hW⟩ rfl hn hsz hst (lv_room hW) d ⟨Nat.zero_le _, Nat.zero_le _⟩) hS (fun q _ h => hFc q h) hFc (fun r u t H1 locs1 ht hvm hw hB hz1 hk1 hS1 => ?_)
  obtain ⟨rfl, rfl⟩ := hw
  obtain ⟨hP1, hK1, hD1⟩ := hB
  rw [ht] at hP1
  exact kk H1 locs1 hP1 (hD1.weaken (fun k q _ h => hFc q.1 h)) hS1
theorem callVV {T9 : u_T} {N9 : Nat} {fs : List Value} {ci : Nat} (X : Cx p s m args meth c cc maxL ret own D tys ad A) (hM : MV l y ccy maxLy rety rm D tys ad cw (.ref b :: As) σ H.size σ') (lk : LkV own idx C y ccy maxLy rety n) (hR : RmOk rm R maxLy)
    (q0 : Nat) (he : (cw σ)[q0]? = some (b, .inr (ci, fs))) (hc : vwCl[ci]? = some (C, T9, N9)) (hP : va_P D vwCl (cw σ) H) (hD : va_D A (cw σ)) (hS : va_S A s.heap H locs) (hsz : ls.size = maxL) (hst : st = As.reverse ++ .ref b :: rest) (hn : As.length = n) (hW : (rest.map fun v => v.category).sum ≤ 8) (d : decode cc pc = .ok (.invokevirtual idx, 3))
    (kk : ∀ (H1 : Heap) (locs1 : List Loc), va_P D vwCl (cw σ') H1 → va_D A (cw σ') → va_S A s.heap H1 locs1 → W p l e R s m args below meth c H1 locs1 0 0 Q (F0 m (pc + 3) ls rest)) : W p l e R s m args below meth c H locs 0 0 Q (F0 m pc ls st) := by
  have hFc := wfree X hD hS
  obtain ⟨hx, hb, hr, hml, hown, hlocks, hts, hA, hK, hZ⟩ := id X
  refine va_callv (va_runV (As := As) (rest := rest) (C := C) ⟨hx, hb, hml, hown, hts⟩ hM ⟨lkB_of hts lk.1 hR, hts _ lk.2.1, hts _ lk.2.2⟩ ⟨wPc_blind, va_recv hK hP hc he, fun U hU hW => wPc_now X hP hD hS U hU hW⟩ rfl hn hsz hst (lv_room hW) d ⟨Nat.zero_le _, Nat.zero_le _⟩) hS (fun q _ h => hFc q h) hFc (fun u t H1 locs1 ht hvm hw hB hz1 hk1 hS1 => ?_)
  obtain rfl := hw
  obtain ⟨hP1, hK1, hD1⟩ := hB
  rw [ht] at hP1
  exact kk H1 locs1 hP1 (hD1.weaken (fun k q _ h => hFc q.1 h)) hS1
theorem callSI {r : Int32} (X : Cx p s m args meth c cc maxL ret own D tys ad A) (hM : MI l y ccy maxLy rety rm D tys ad cw As σ H.size r σ') (lk : LkS own idx y ccy maxLy rety n) (hR : RmOk rm R maxLy)
    (hP : va_P D vwCl (cw σ) H) (hD : va_D A (cw σ)) (hS : va_S A s.heap H locs) (hsz : ls.size = maxL) (hst : st = As.reverse ++ rest) (hn : As.length = n) (hW : (rest.map fun v => v.category).sum ≤ 8) (d : decode cc pc = .ok (.invokestatic idx, 3))
    (kk : ∀ (H1 : Heap) (locs1 : List Loc), va_P D vwCl (cw σ') H1 → va_D A (cw σ') → va_S A s.heap H1 locs1 → W p l e R s m args below meth c H1 locs1 0 0 Q (F0 m (pc + 3) ls (.int r :: rest))) : W p l e R s m args below meth c H locs 0 0 Q (F0 m pc ls st) := by
  have hFc := wfree X hD hS
  obtain ⟨hx, hb, hr, hml, hown, hlocks, hts, hA, hK, hZ⟩ := id X
  refine va_calli (va_runS (As := As) (rest := rest) ⟨hx, hb, hml, hown, hts⟩ hM ⟨lkB_of hts lk.1 hR, hts _ lk.2⟩ ⟨wPc_blind, fun U hU hW => wPc_now X hP hD hS U hU hW⟩ rfl hn hsz hst (lv_room hW) d ⟨Nat.zero_le _, Nat.zero_le _⟩) hS (fun q _ h => hFc q h) hFc (fun r u t H1 locs1 ht hvm hw hB hz1 hk1 hS1 => ?_)
  obtain ⟨rfl, rfl⟩ := hw
  obtain ⟨hP1, hK1, hD1⟩ := hB
  rw [ht] at hP1
  exact kk H1 locs1 hP1 (hD1.weaken (fun k q _ h => hFc q.1 h)) hS1
theorem callSJ {r : Int64} (X : Cx p s m args meth c cc maxL ret own D tys ad A) (hM : MJ l y ccy maxLy rety rm D tys ad cw As σ H.size r σ') (lk : LkS own idx y ccy maxLy rety n) (hR : RmOk rm R maxLy)
    (hP : va_P D vwCl (cw σ) H) (hD : va_D A (cw σ)) (hS : va_S A s.heap H locs) (hsz : ls.size = maxL) (hst : st = As.reverse ++ rest) (hn : As.length = n) (hW : (rest.map fun v => v.category).sum ≤ 8) (d : decode cc pc = .ok (.invokestatic idx, 3))
    (kk : ∀ (H1 : Heap) (locs1 : List Loc), va_P D vwCl (cw σ') H1 → va_D A (cw σ') → va_S A s.heap H1 locs1 → W p l e R s m args below meth c H1 locs1 0 0 Q (F0 m (pc + 3) ls (.long r :: rest))) : W p l e R s m args below meth c H locs 0 0 Q (F0 m pc ls st) := by
  have hFc := wfree X hD hS
  obtain ⟨hx, hb, hr, hml, hown, hlocks, hts, hA, hK, hZ⟩ := id X
  refine va_calll (va_runS (As := As) (rest := rest) ⟨hx, hb, hml, hown, hts⟩ hM ⟨lkB_of hts lk.1 hR, hts _ lk.2⟩ ⟨wPc_blind, fun U hU hW => wPc_now X hP hD hS U hU hW⟩ rfl hn hsz hst (lv_room hW) d ⟨Nat.zero_le _, Nat.zero_le _⟩) hS (fun q _ h => hFc q h) hFc (fun r u t H1 locs1 ht hvm hw hB hz1 hk1 hS1 => ?_)
  obtain ⟨rfl, rfl⟩ := hw
  obtain ⟨hP1, hK1, hD1⟩ := hB
  rw [ht] at hP1
  exact kk H1 locs1 hP1 (hD1.weaken (fun k q _ h => hFc q.1 h)) hS1
theorem callSV (X : Cx p s m args meth c cc maxL ret own D tys ad A) (hM : MV l y ccy maxLy rety rm D tys ad cw As σ H.size σ') (lk : LkS own idx y ccy maxLy rety n) (hR : RmOk rm R maxLy)
    (hP : va_P D vwCl (cw σ) H) (hD : va_D A (cw σ)) (hS : va_S A s.heap H locs) (hsz : ls.size = maxL) (hst : st = As.reverse ++ rest) (hn : As.length = n) (hW : (rest.map fun v => v.category).sum ≤ 8) (d : decode cc pc = .ok (.invokestatic idx, 3))
    (kk : ∀ (H1 : Heap) (locs1 : List Loc), va_P D vwCl (cw σ') H1 → va_D A (cw σ') → va_S A s.heap H1 locs1 → W p l e R s m args below meth c H1 locs1 0 0 Q (F0 m (pc + 3) ls rest)) : W p l e R s m args below meth c H locs 0 0 Q (F0 m pc ls st) := by
  have hFc := wfree X hD hS
  obtain ⟨hx, hb, hr, hml, hown, hlocks, hts, hA, hK, hZ⟩ := id X
  refine va_callv (va_runS (As := As) (rest := rest) ⟨hx, hb, hml, hown, hts⟩ hM ⟨lkB_of hts lk.1 hR, hts _ lk.2⟩ ⟨wPc_blind, fun U hU hW => wPc_now X hP hD hS U hU hW⟩ rfl hn hsz hst (lv_room hW) d ⟨Nat.zero_le _, Nat.zero_le _⟩) hS (fun q _ h => hFc q h) hFc (fun u t H1 locs1 ht hvm hw hB hz1 hk1 hS1 => ?_)
  obtain rfl := hw
  obtain ⟨hP1, hK1, hD1⟩ := hB
  rw [ht] at hP1
  exact kk H1 locs1 hP1 (hD1.weaken (fun k q _ h => hFc q.1 h)) hS1
theorem callZI {r : Int32} {i : Nat} (X : Cx p s m args meth c cc maxL ret own D tys ad A) (hM : MI l y ccy maxLy rety rm D tys ad cw (.ref (ad (100 + i)) :: As) σ H.size r σ') (lk : LkV own idx "java/lang/String" y ccy maxLy rety n) (hR : RmOk rm R maxLy)
    (hi : i < strs.length) (hP : va_P D vwCl (cw σ) H) (hD : va_D A (cw σ)) (hS : va_S A s.heap H locs) (hsz : ls.size = maxL) (hst : st = As.reverse ++ .ref (ad (100 + i)) :: rest) (hn : As.length = n) (hW : (rest.map fun v => v.category).sum ≤ 8) (d : decode cc pc = .ok (.invokevirtual idx, 3))
    (kk : ∀ (H1 : Heap) (locs1 : List Loc), va_P D vwCl (cw σ') H1 → va_D A (cw σ') → va_S A s.heap H1 locs1 → W p l e R s m args below meth c H1 locs1 0 0 Q (F0 m (pc + 3) ls (.int r :: rest))) : W p l e R s m args below meth c H locs 0 0 Q (F0 m pc ls st) := by
  have hFc := wfree X hD hS
  obtain ⟨hx, hb, hr, hml, hown, hlocks, hts, hA, hK, hZ⟩ := id X
  refine va_calli (va_runV (As := As) (rest := rest) (C := "java/lang/String") ⟨hx, hb, hml, hown, hts⟩ hM ⟨lkB_of hts lk.1 hR, hts _ lk.2.1, hts _ lk.2.2⟩ ⟨wPc_blind, vk_recv (adK := fun i => ad (100 + i)) hZ.1 hi hS, fun U hU hW => wPc_now X hP hD hS U hU hW⟩ rfl hn hsz hst (lv_room hW) d ⟨Nat.zero_le _, Nat.zero_le _⟩) hS (fun q _ h => hFc q h) hFc (fun r u t H1 locs1 ht hvm hw hB hz1 hk1 hS1 => ?_)
  obtain ⟨rfl, rfl⟩ := hw
  obtain ⟨hP1, hK1, hD1⟩ := hB
  rw [ht] at hP1
  exact kk H1 locs1 hP1 (hD1.weaken (fun k q _ h => hFc q.1 h)) hS1
theorem leafI {r : Int32} (X : Cx p s m args meth c cc maxL (some .int) own D tys ad A) (hP : va_P D vwCl (cw σ) H) (hD : va_D A (cw σ)) (hS : va_S A s.heap H locs) (d : decode cc pc = .ok (.ireturn, 1)) : W p l e R s m args below meth c H locs 0 0 (MQ below (QI D tys cw A r σ) args s 0 0 A) (F0 m pc ls [.int r]) := by
  obtain ⟨hx, hb, hr, hml, hown, hlocks, hts, hA, hK, hZ⟩ := id X
  exact W.iret hx hb hr (fun t ht hW => ⟨⟨r, σ, rfl, ⟨rfl, rfl⟩, by rw [ht]; exact hP, va_K.moved hW.alike hK, hD⟩, hS.F ht⟩) hS.2.2 d hlocks
theorem leafZ {r : Int32} {ty : FieldType} (X : Cx p s m args meth c cc maxL (some ty) own D tys ad A) (hP : va_P D vwCl (cw σ) H) (hD : va_D A (cw σ)) (hS : va_S A s.heap H locs) (hn : narrow ty (.int r) = .int r) (d : decode cc pc = .ok (.ireturn, 1)) : W p l e R s m args below meth c H locs 0 0 (MQ below (QI D tys cw A r σ) args s 0 0 A) (F0 m pc ls [.int r]) := by
  obtain ⟨hx, hb, hr, hml, hown, hlocks, hts, hA, hK, hZ⟩ := id X
  exact W.zret hx hb hr hn (fun t ht hW => ⟨⟨r, σ, rfl, ⟨rfl, rfl⟩, by rw [ht]; exact hP, va_K.moved hW.alike hK, hD⟩, hS.F ht⟩) hS.2.2 d hlocks
theorem leafJ {r : Int64} (X : Cx p s m args meth c cc maxL (some .long) own D tys ad A) (hP : va_P D vwCl (cw σ) H) (hD : va_D A (cw σ)) (hS : va_S A s.heap H locs) (d : decode cc pc = .ok (.lreturn, 1)) : W p l e R s m args below meth c H locs 0 0 (MQ below (QJ D tys cw A r σ) args s 0 0 A) (F0 m pc ls [.long r]) := by
  obtain ⟨hx, hb, hr, hml, hown, hlocks, hts, hA, hK, hZ⟩ := id X
  exact W.lret hx hb hr (fun t ht hW => ⟨⟨r, σ, rfl, ⟨rfl, rfl⟩, by rw [ht]; exact hP, va_K.moved hW.alike hK, hD⟩, hS.F ht⟩) hS.2.2 d hlocks
theorem leafV (X : Cx p s m args meth c cc maxL none own D tys ad A) (hP : va_P D vwCl (cw σ) H) (hD : va_D A (cw σ)) (hS : va_S A s.heap H locs) (d : decode cc pc = .ok (.return_, 1)) : W p l e R s m args below meth c H locs 0 0 (MQ below (QV D tys cw A σ) args s 0 0 A) (F0 m pc ls []) := by
  obtain ⟨hx, hb, hr, hml, hown, hlocks, hts, hA, hK, hZ⟩ := id X
  exact W.vret hx hb hr (fun t ht hW => ⟨⟨σ, rfl, rfl, by rw [ht]; exact hP, va_K.moved hW.alike hK, hD⟩, hS.F ht⟩) hS.2.2 d hlocks
theorem startM {av : List Value} {sz : Nat} {Qc : (Nat → Prop) → Array Value → State → Outcome → State → Prop} (hy : plainName y.cls = true) (ho : y.cls = own) (hlen : (lg_sl av).length ≤ maxL)
    (K : ∀ (p : Program) (e : Env) (s : State) (m : MethodId) (below : List Frame) (meth : Method) (c : Code) (A : Nat → Prop) (H : Heap) (locs : List Loc) (ls : Array Slot), Cx p s m av.toArray meth c cc maxL ret own D tys ad A → va_P D vwCl (cw σ) H → va_D A (cw σ) → va_S A s.heap H locs → lv_has ls maxL (lv_args 0 av) → W p l e rm s m av.toArray below meth c H locs 0 0 (MQ below (Qc A) av.toArray s 0 0 A) (F0 m 0 ls [])) :
    Met l y (Cond.code y cc maxL ret :: BIG) rm (wPc D tys ad cw av σ sz) (Qc (va_A (cw σ) sz)) 0 0 (va_A (cw σ) sz) := by
  refine Met.ofW (cc := cc) (maxL := maxL) (ret := ret) hy rfl ?_
  intro p e s m args below meth c s₁ B hml hv
  obtain ⟨rfl, hsz, hP, hK, hD0, hN⟩ := hv
  have hts0 := atoms_spec (ws := Cond.code y cc maxL ret :: BIG) B.pre
  have hown : s.vm.findClass own = some m.cls := by rw [← ho]; exact findClass_of_methodNamed B.named
  subst hsz
  have hD := hD0.self (sz := s.heap.size)
  have hl := lv_entry av (n := maxL) hlen
  rw [lg_entry_eq]
  exact K p e s m below meth c _ s.heap [] _ ⟨B.exec, B.bytes, B.returns, hml, hown, B.notSynchronized, fun w h => hts0 w (List.mem_cons_of_mem _ h), fun q h => Or.inr h, hK, hN⟩ hP hD va_S.rf hl
end BC
def tcw (ad : Nat → Nat) (cA : Nat → ClassId) (σ : St) : va_W := [(ad 0, .inr (0, [.ref (ad 12), .int (σ.1 0)])), (ad 1, .inr (1, [.int (σ.1 1), .int (σ.1 2), .int (σ.1 3)])), (ad 2, .inr (2, [.ref (ad 0), .ref (ad 1), .ref (ad 13), .ref (ad 14), .ref (ad 15), .int (σ.1 4), .int (σ.1 5)])), (ad 3, .inr (3, [.ref (ad 2), .ref (ad 1), .int (σ.1 6), .int (σ.1 7)])), (ad 4, .inr (4, [.ref (ad 2), .ref (ad 1), .ref (ad 16), .int (σ.1 8), .int (σ.1 9)])), (ad 5, .inr (5, [.ref (ad 2), .ref (ad 1), .ref (ad 17), .ref (ad 18), .ref (ad 19), .ref (ad 20), .int (σ.1 10), .int (σ.1 11), .int (σ.1 12)])), (ad 6, .inr (6, [.ref (ad 21), .ref (ad 22), .ref (ad 23), .int (σ.1 13), .int (σ.1 14)])), (ad 7, .inr (7, [.ref (ad 3), .ref (ad 4), .ref (ad 5), .ref (ad 6)])), (ad 8, .inr (8, [.ref (ad 24), .int (σ.1 15), .int (σ.1 16)])), (ad 9, .inr (9, [.ref (ad 6), .ref (ad 8), .ref (ad 25), .ref (ad 26), .ref (ad 27), .ref (ad 28), .ref (ad 29), .int (σ.1 17), .int (σ.1 18), .int (σ.1 19), .int (σ.1 20), .int (σ.1 21), .int (σ.1 22), .int (σ.1 23), .int (σ.1 24)])), (ad 10, .inr (10, [.ref (ad 0), .ref (ad 2), .ref (ad 1), .ref (ad 5), .ref (ad 6), .ref (ad 7), .ref (ad 8), .ref (ad 9), .int (σ.1 25)])), (ad 11, .inr (11, [.int (σ.1 26), .ref (ad 30), .int (σ.1 27), .int (σ.1 28), .int (σ.1 29), .int (σ.1 30), .int (σ.1 31), .int (σ.1 32), .int (σ.1 33), .ref (ad 31), .ref (ad 32), .ref (ad 33), .ref (ad 34), .int (σ.1 34), .ref (ad 35), .ref (ad 36), .ref (ad 37), .ref (ad 38), .ref (ad 39), .ref (ad 40), .ref (ad 41), .int (σ.1 35), .int (σ.1 36), .int (σ.1 37), .ref (ad 42), .ref (ad 43), .ref (ad 44), .ref (ad 45), .int (σ.1 38), .int (σ.1 39), .ref (ad 46), .ref (ad 47), .ref (ad 48), .int (σ.1 40), .int (σ.1 41), .int (σ.1 42), .ref (ad 49), .ref (ad 50), .ref (ad 51), .int (σ.1 43), .int (σ.1 44), .int (σ.1 45), .int (σ.1 46), .int (σ.1 47), .int (σ.1 48), .int (σ.1 49), .int (σ.1 50), .int (σ.1 51), .int (σ.1 52), .int (σ.1 53), .ref (ad 52), .ref (ad 53), .ref (ad 54), .ref (ad 55), .ref (ad 56), .ref (ad 57), .ref (ad 58)])), (ad 12, .inl (cA 2, 480, .inl (σ.2.2.1 0))), (ad 13, .inl (cA 0, 220, .inl (σ.2.2.1 1))), (ad 14, .inl (cA 0, 220, .inl (σ.2.2.1 2))), (ad 15, .inl (cA 1, 220, .inr (.inl (σ.2.2.2 0)))), (ad 16, .inl (cA 1, 12, .inr (.inl (σ.2.2.2 1)))), (ad 17, .inl (cA 1, 12, .inr (.inl (σ.2.2.2 2)))), (ad 18, .inl (cA 3, 12, .inl (σ.2.2.1 3))), (ad 19, .inl (cA 0, 12, .inl (σ.2.2.1 4))), (ad 20, .inl (cA 0, 12, .inl (σ.2.2.1 5))), (ad 21, .inl (cA 0, 440, .inl (σ.2.2.1 6))), (ad 22, .inl (cA 0, 440, .inl (σ.2.2.1 7))), (ad 23, .inl (cA 0, 440, .inl (σ.2.2.1 8))), (ad 24, .inl (cA 0, 20, .inl (σ.2.2.1 9))), (ad 25, .inl (cA 0, 576, .inl (σ.2.2.1 10))), (ad 26, .inl (cA 0, 64, .inl (σ.2.2.1 11))), (ad 27, .inl (cA 0, 12, .inl (σ.2.2.1 12))), (ad 28, .inl (cA 0, 12, .inl (σ.2.2.1 13))), (ad 29, .inl (cA 0, 30, .inl (σ.2.2.1 14))), (ad 30, .inl (cA 2, 480, .inl (σ.2.2.1 15))), (ad 31, .inl (cA 0, 500, .inl (σ.2.2.1 16))), (ad 32, .inl (cA 0, 500, .inl (σ.2.2.1 17))), (ad 33, .inl (cA 0, 500, .inl (σ.2.2.1 18))), (ad 34, .inl (cA 0, 500, .inl (σ.2.2.1 19))), (ad 35, .inl (cA 0, 500, .inl (σ.2.2.1 20))), (ad 36, .inl (cA 0, 500, .inl (σ.2.2.1 21))), (ad 37, .inl (cA 0, 500, .inl (σ.2.2.1 22))), (ad 38, .inl (cA 0, 500, .inl (σ.2.2.1 23))), (ad 39, .inl (cA 0, 500, .inl (σ.2.2.1 24))), (ad 40, .inl (cA 0, 500, .inl (σ.2.2.1 25))), (ad 41, .inl (cA 0, 500, .inl (σ.2.2.1 26))), (ad 42, .inl (cA 0, 60, .inl (σ.2.2.1 27))), (ad 43, .inl (cA 3, 60, .inl (σ.2.2.1 28))), (ad 44, .inl (cA 0, 60, .inl (σ.2.2.1 29))), (ad 45, .inl (cA 0, 60, .inl (σ.2.2.1 30))), (ad 46, .inl (cA 0, 120, .inl (σ.2.2.1 31))), (ad 47, .inl (cA 0, 120, .inl (σ.2.2.1 32))), (ad 48, .inl (cA 0, 60, .inl (σ.2.2.1 33))), (ad 49, .inl (cA 0, 60, .inl (σ.2.2.1 34))), (ad 50, .inl (cA 0, 60, .inl (σ.2.2.1 35))), (ad 51, .inl (cA 0, 60, .inl (σ.2.2.1 36))), (ad 52, .inl (cA 0, 20, .inl (σ.2.2.1 37))), (ad 53, .inl (cA 0, 30, .inl (σ.2.2.1 38))), (ad 54, .inl (cA 0, 960, .inl (σ.2.2.1 39))), (ad 55, .inl (cA 0, 156, .inl (σ.2.2.1 40))), (ad 56, .inl (cA 0, 1600, .inl (σ.2.2.1 41))), (ad 57, .inl (cA 0, 1600, .inl (σ.2.2.1 42))), (ad 58, .inl (cA 0, 400, .inl (σ.2.2.1 43))), (ad 59, .inl (cA 1, 1, .inr (.inl (σ.2.2.2 3))))]
def ttys (cA : Nat → ClassId) : List (ClassId × FieldType) := [(cA 0, .int), (cA 1, .long), (cA 2, .char), (cA 3, .boolean)]
abbrev b_Cursor_close : ByteArray := prog_2_method_9_code
def y_Cursor_close : MethodName := ⟨"TinyForge$Cursor", "close", "()V"⟩
abbrev b_Cursor_init : ByteArray := prog_2_method_1_code
def y_Cursor_init : MethodName := ⟨"TinyForge$Cursor", "<init>", "(LTinyForge$Tokens;LTinyForge$Refusal;)V"⟩
abbrev b_Cursor_kind : ByteArray := prog_2_method_3_code
def y_Cursor_kind : MethodName := ⟨"TinyForge$Cursor", "kind", "()I"⟩
abbrev b_Cursor_nextKind : ByteArray := prog_2_method_4_code
def y_Cursor_nextKind : MethodName := ⟨"TinyForge$Cursor", "nextKind", "()I"⟩
abbrev b_Cursor_number : ByteArray := prog_2_method_5_code
def y_Cursor_number : MethodName := ⟨"TinyForge$Cursor", "number", "()I"⟩
abbrev b_Cursor_pass : ByteArray := prog_2_method_6_code
def y_Cursor_pass : MethodName := ⟨"TinyForge$Cursor", "pass", "(I)V"⟩
abbrev b_Cursor_passClosing : ByteArray := prog_2_method_8_code
def y_Cursor_passClosing : MethodName := ⟨"TinyForge$Cursor", "passClosing", "(I)V"⟩
abbrev b_Cursor_passOpening : ByteArray := prog_2_method_7_code
def y_Cursor_passOpening : MethodName := ⟨"TinyForge$Cursor", "passOpening", "(I)V"⟩
abbrev b_Cursor_start : ByteArray := prog_2_method_2_code
def y_Cursor_start : MethodName := ⟨"TinyForge$Cursor", "start", "()V"⟩
abbrev b_Forge_clear : ByteArray := prog_1_method_3_code
def y_Forge_clear : MethodName := ⟨"TinyForge", "clear", "()I"⟩
abbrev b_Forge_empty : ByteArray := prog_1_method_8_code
def y_Forge_empty : MethodName := ⟨"TinyForge", "empty", "()I"⟩
abbrev b_Forge_forge : ByteArray := prog_1_method_4_code
def y_Forge_forge : MethodName := ⟨"TinyForge", "forge", "()I"⟩
abbrev b_Forge_give : ByteArray := prog_1_method_7_code
def y_Forge_give : MethodName := ⟨"TinyForge", "give", "(I)I"⟩
abbrev b_Forge_init : ByteArray := prog_1_method_1_code
def y_Forge_init : MethodName := ⟨"TinyForge", "<init>", "()V"⟩
abbrev b_Forge_output : ByteArray := prog_1_method_11_code
def y_Forge_output : MethodName := ⟨"TinyForge", "output", "(I)I"⟩
abbrev b_Forge_result : ByteArray := prog_1_method_10_code
def y_Forge_result : MethodName := ⟨"TinyForge", "result", "()I"⟩
abbrev b_Forge_run : ByteArray := prog_1_method_9_code
def y_Forge_run : MethodName := ⟨"TinyForge", "run", "()I"⟩
abbrev b_Forge_ticks : ByteArray := prog_1_method_12_code
def y_Forge_ticks : MethodName := ⟨"TinyForge", "ticks", "()I"⟩
abbrev b_Forge_type : ByteArray := prog_1_method_2_code
def y_Forge_type : MethodName := ⟨"TinyForge", "type", "(JI)I"⟩
abbrev b_Forge_where : ByteArray := prog_1_method_6_code
def y_Forge_where : MethodName := ⟨"TinyForge", "where", "()I"⟩
abbrev b_Forge_why : ByteArray := prog_1_method_5_code
def y_Forge_why : MethodName := ⟨"TinyForge", "why", "()I"⟩
abbrev b_Globals_add : ByteArray := prog_3_method_6_code
def y_Globals_add : MethodName := ⟨"TinyForge$Globals", "add", "(IZII)V"⟩
abbrev b_Globals_find : ByteArray := prog_3_method_7_code
def y_Globals_find : MethodName := ⟨"TinyForge$Globals", "find", "(J)I"⟩
abbrev b_Globals_init : ByteArray := prog_3_method_1_code
def y_Globals_init : MethodName := ⟨"TinyForge$Globals", "<init>", "(LTinyForge$Tokens;LTinyForge$Refusal;)V"⟩
abbrev b_Globals_isNew : ByteArray := prog_3_method_5_code
def y_Globals_isNew : MethodName := ⟨"TinyForge$Globals", "isNew", "(I)Z"⟩
abbrev b_Globals_join : ByteArray := prog_3_method_8_code
def y_Globals_join : MethodName := ⟨"TinyForge$Globals", "join", "(LTinyForge$Program;)V"⟩
abbrev b_Globals_joinMain : ByteArray := prog_3_method_10_code
def y_Globals_joinMain : MethodName := ⟨"TinyForge$Globals", "joinMain", "(LTinyForge$Program;)V"⟩
abbrev b_Globals_joinOne : ByteArray := prog_3_method_9_code
def y_Globals_joinOne : MethodName := ⟨"TinyForge$Globals", "joinOne", "(LTinyForge$Program;IZ)V"⟩
abbrev b_Globals_makeArray : ByteArray := prog_3_method_3_code
def y_Globals_makeArray : MethodName := ⟨"TinyForge$Globals", "makeArray", "(II)V"⟩
abbrev b_Globals_makeFunction : ByteArray := prog_3_method_4_code
def y_Globals_makeFunction : MethodName := ⟨"TinyForge$Globals", "makeFunction", "(III)V"⟩
abbrev b_Globals_start : ByteArray := prog_3_method_2_code
def y_Globals_start : MethodName := ⟨"TinyForge$Globals", "start", "()V"⟩
abbrev b_Grammar_array : ByteArray := prog_4_method_4_code
def y_Grammar_array : MethodName := ⟨"TinyForge$Grammar", "array", "(I)V"⟩
abbrev b_Grammar_block : ByteArray := prog_4_method_10_code
def y_Grammar_block : MethodName := ⟨"TinyForge$Grammar", "block", "()V"⟩
abbrev b_Grammar_conditional : ByteArray := prog_4_method_12_code
def y_Grammar_conditional : MethodName := ⟨"TinyForge$Grammar", "conditional", "(I)V"⟩
abbrev b_Grammar_element : ByteArray := prog_4_method_23_code
def y_Grammar_element : MethodName := ⟨"TinyForge$Grammar", "element", "()V"⟩
abbrev b_Grammar_elementFirst : ByteArray := prog_4_method_15_code
def y_Grammar_elementFirst : MethodName := ⟨"TinyForge$Grammar", "elementFirst", "(I)V"⟩
abbrev b_Grammar_endWith : ByteArray := prog_4_method_9_code
def y_Grammar_endWith : MethodName := ⟨"TinyForge$Grammar", "endWith", "(II)V"⟩
abbrev b_Grammar_function : ByteArray := prog_4_method_5_code
def y_Grammar_function : MethodName := ⟨"TinyForge$Grammar", "function", "(I)V"⟩
abbrev b_Grammar_given : ByteArray := prog_4_method_24_code
def y_Grammar_given : MethodName := ⟨"TinyForge$Grammar", "given", "()I"⟩
abbrev b_Grammar_init : ByteArray := prog_4_method_1_code
def y_Grammar_init : MethodName := ⟨"TinyForge$Grammar", "<init>", "(LTinyForge$Cursor;LTinyForge$Variables;LTinyForge$Globals;LTinyForge$Program;)V"⟩
abbrev b_Grammar_namedStatement : ByteArray := prog_4_method_14_code
def y_Grammar_namedStatement : MethodName := ⟨"TinyForge$Grammar", "namedStatement", "(I)V"⟩
abbrev b_Grammar_namedValue : ByteArray := prog_4_method_22_code
def y_Grammar_namedValue : MethodName := ⟨"TinyForge$Grammar", "namedValue", "(I)V"⟩
abbrev b_Grammar_newVariable : ByteArray := prog_4_method_11_code
def y_Grammar_newVariable : MethodName := ⟨"TinyForge$Grammar", "newVariable", "(Z)V"⟩
abbrev b_Grammar_one : ByteArray := prog_4_method_20_code
def y_Grammar_one : MethodName := ⟨"TinyForge$Grammar", "one", "()V"⟩
abbrev b_Grammar_otherwise : ByteArray := prog_4_method_13_code
def y_Grammar_otherwise : MethodName := ⟨"TinyForge$Grammar", "otherwise", "(I)I"⟩
abbrev b_Grammar_parameters : ByteArray := prog_4_method_6_code
def y_Grammar_parameters : MethodName := ⟨"TinyForge$Grammar", "parameters", "()I"⟩
abbrev b_Grammar_part : ByteArray := prog_4_method_3_code
def y_Grammar_part : MethodName := ⟨"TinyForge$Grammar", "part", "()V"⟩
abbrev b_Grammar_readWhole : ByteArray := prog_4_method_2_code
def y_Grammar_readWhole : MethodName := ⟨"TinyForge$Grammar", "readWhole", "()V"⟩
abbrev b_Grammar_sign : ByteArray := prog_4_method_19_code
def y_Grammar_sign : MethodName := ⟨"TinyForge$Grammar", "sign", "(I)V"⟩
abbrev b_Grammar_signed : ByteArray := prog_4_method_21_code
def y_Grammar_signed : MethodName := ⟨"TinyForge$Grammar", "signed", "(I)V"⟩
abbrev b_Grammar_signs : ByteArray := prog_4_method_17_code
def y_Grammar_signs : MethodName := ⟨"TinyForge$Grammar", "signs", "(I)V"⟩
abbrev b_Grammar_statement : ByteArray := prog_4_method_8_code
def y_Grammar_statement : MethodName := ⟨"TinyForge$Grammar", "statement", "(Z)V"⟩
abbrev b_Grammar_statements : ByteArray := prog_4_method_7_code
def y_Grammar_statements : MethodName := ⟨"TinyForge$Grammar", "statements", "()V"⟩
abbrev b_Grammar_strengthOf : ByteArray := prog_4_method_18_code
def y_Grammar_strengthOf : MethodName := ⟨"TinyForge$Grammar", "strengthOf", "(I)I"⟩
abbrev b_Grammar_value : ByteArray := prog_4_method_16_code
def y_Grammar_value : MethodName := ⟨"TinyForge$Grammar", "value", "(I)V"⟩
abbrev b_Input_add : ByteArray := prog_5_method_2_code
def y_Input_add : MethodName := ⟨"TinyForge$Input", "add", "(I)V"⟩
abbrev b_Input_init : ByteArray := prog_5_method_1_code
def y_Input_init : MethodName := ⟨"TinyForge$Input", "<init>", "()V"⟩
abbrev b_Input_take : ByteArray := prog_5_method_3_code
def y_Input_take : MethodName := ⟨"TinyForge$Input", "take", "()I"⟩
abbrev b_Law_forge : ByteArray := method_4_code
def y_Law_forge : MethodName := ⟨"TinyForgeLaw", "forge", "(LTinyForge;[J)I"⟩
abbrev b_Law_give : ByteArray := method_5_code
def y_Law_give : MethodName := ⟨"TinyForgeLaw", "give", "(LTinyForge;I[J)I"⟩
abbrev b_Law_run : ByteArray := method_6_code
def y_Law_run : MethodName := ⟨"TinyForgeLaw", "run", "(LTinyForge;[J)I"⟩
abbrev b_Law_type : ByteArray := method_3_code
def y_Law_type : MethodName := ⟨"TinyForgeLaw", "type", "(LTinyForge;JI[J)I"⟩
abbrev b_Machine_call : ByteArray := prog_6_method_10_code
def y_Machine_call : MethodName := ⟨"TinyForge$Machine", "call", "(II)V"⟩
abbrev b_Machine_cell : ByteArray := prog_6_method_18_code
def y_Machine_cell : MethodName := ⟨"TinyForge$Machine", "cell", "(I)I"⟩
abbrev b_Machine_decide : ByteArray := prog_6_method_9_code
def y_Machine_decide : MethodName := ⟨"TinyForge$Machine", "decide", "(ZI)V"⟩
abbrev b_Machine_fetchElement : ByteArray := prog_6_method_13_code
def y_Machine_fetchElement : MethodName := ⟨"TinyForge$Machine", "fetchElement", "(II)V"⟩
abbrev b_Machine_forget : ByteArray := prog_6_method_2_code
def y_Machine_forget : MethodName := ⟨"TinyForge$Machine", "forget", "()V"⟩
abbrev b_Machine_init : ByteArray := prog_6_method_1_code
def y_Machine_init : MethodName := ⟨"TinyForge$Machine", "<init>", "(LTinyForge$Program;LTinyForge$Input;)V"⟩
abbrev b_Machine_leave : ByteArray := prog_6_method_11_code
def y_Machine_leave : MethodName := ⟨"TinyForge$Machine", "leave", "(I)V"⟩
abbrev b_Machine_move : ByteArray := prog_6_method_6_code
def y_Machine_move : MethodName := ⟨"TinyForge$Machine", "move", "(II)V"⟩
abbrev b_Machine_outputAt : ByteArray := prog_6_method_3_code
def y_Machine_outputAt : MethodName := ⟨"TinyForge$Machine", "outputAt", "(I)I"⟩
abbrev b_Machine_pop : ByteArray := prog_6_method_17_code
def y_Machine_pop : MethodName := ⟨"TinyForge$Machine", "pop", "()I"⟩
abbrev b_Machine_push : ByteArray := prog_6_method_16_code
def y_Machine_push : MethodName := ⟨"TinyForge$Machine", "push", "(I)V"⟩
abbrev b_Machine_put : ByteArray := prog_6_method_15_code
def y_Machine_put : MethodName := ⟨"TinyForge$Machine", "put", "(I)V"⟩
abbrev b_Machine_setCell : ByteArray := prog_6_method_19_code
def y_Machine_setCell : MethodName := ⟨"TinyForge$Machine", "setCell", "(II)V"⟩
abbrev b_Machine_setElement : ByteArray := prog_6_method_14_code
def y_Machine_setElement : MethodName := ⟨"TinyForge$Machine", "setElement", "(II)V"⟩
abbrev b_Machine_step : ByteArray := prog_6_method_5_code
def y_Machine_step : MethodName := ⟨"TinyForge$Machine", "step", "()V"⟩
abbrev b_Machine_tick : ByteArray := prog_6_method_12_code
def y_Machine_tick : MethodName := ⟨"TinyForge$Machine", "tick", "()V"⟩
abbrev b_Machine_truth : ByteArray := prog_6_method_8_code
def y_Machine_truth : MethodName := ⟨"TinyForge$Machine", "truth", "(Z)I"⟩
abbrev b_Machine_work : ByteArray := prog_6_method_4_code
def y_Machine_work : MethodName := ⟨"TinyForge$Machine", "work", "()I"⟩
abbrev b_Machine_workedOut : ByteArray := prog_6_method_7_code
def y_Machine_workedOut : MethodName := ⟨"TinyForge$Machine", "workedOut", "(III)I"⟩
abbrev b_Model_addLast : ByteArray := prog_13_method_30_code
def y_Model_addLast : MethodName := ⟨"TinyForgeModel", "addLast", "(II)V"⟩
abbrev b_Model_addToken : ByteArray := prog_13_method_12_code
def y_Model_addToken : MethodName := ⟨"TinyForgeModel", "addToken", "(IIII)V"⟩
abbrev b_Model_areAlike : ByteArray := prog_13_method_19_code
def y_Model_areAlike : MethodName := ⟨"TinyForgeModel", "areAlike", "(II)Z"⟩
abbrev b_Model_arrayPart : ByteArray := prog_13_method_53_code
def y_Model_arrayPart : MethodName := ⟨"TinyForgeModel", "arrayPart", "(I)V"⟩
abbrev b_Model_begin : ByteArray := prog_13_method_40_code
def y_Model_begin : MethodName := ⟨"TinyForgeModel", "begin", "(I)V"⟩
abbrev b_Model_beginBlock : ByteArray := prog_13_method_41_code
def y_Model_beginBlock : MethodName := ⟨"TinyForgeModel", "beginBlock", "()V"⟩
abbrev b_Model_beginName : ByteArray := prog_13_method_32_code
def y_Model_beginName : MethodName := ⟨"TinyForgeModel", "beginName", "()Z"⟩
abbrev b_Model_beginValue : ByteArray := prog_13_method_35_code
def y_Model_beginValue : MethodName := ⟨"TinyForgeModel", "beginValue", "()Z"⟩
abbrev b_Model_behindFirst : ByteArray := prog_13_method_86_code
def y_Model_behindFirst : MethodName := ⟨"TinyForgeModel", "behindFirst", "(II)V"⟩
abbrev b_Model_bit : ByteArray := prog_13_method_69_code
def y_Model_bit : MethodName := ⟨"TinyForgeModel", "bit", "(Z)I"⟩
abbrev b_Model_blame : ByteArray := prog_13_method_8_code
def y_Model_blame : MethodName := ⟨"TinyForgeModel", "blame", "(II)V"⟩
abbrev b_Model_call : ByteArray := prog_13_method_77_code
def y_Model_call : MethodName := ⟨"TinyForgeModel", "call", "(II)V"⟩
abbrev b_Model_clear : ByteArray := prog_13_method_7_code
def y_Model_clear : MethodName := ⟨"TinyForgeModel", "clear", "()I"⟩
abbrev b_Model_closeBracket : ByteArray := prog_13_method_36_code
def y_Model_closeBracket : MethodName := ⟨"TinyForgeModel", "closeBracket", "()I"⟩
abbrev b_Model_closeCall : ByteArray := prog_13_method_33_code
def y_Model_closeCall : MethodName := ⟨"TinyForgeModel", "closeCall", "()V"⟩
abbrev b_Model_combined : ByteArray := prog_13_method_70_code
def y_Model_combined : MethodName := ⟨"TinyForgeModel", "combined", "(III)I"⟩
abbrev b_Model_compared : ByteArray := prog_13_method_71_code
def y_Model_compared : MethodName := ⟨"TinyForgeModel", "compared", "(III)I"⟩
abbrev b_Model_conditional : ByteArray := prog_13_method_45_code
def y_Model_conditional : MethodName := ⟨"TinyForgeModel", "conditional", "(I)V"⟩
abbrev b_Model_element : ByteArray := prog_13_method_37_code
def y_Model_element : MethodName := ⟨"TinyForgeModel", "element", "(II)I"⟩
abbrev b_Model_elementValue : ByteArray := prog_13_method_75_code
def y_Model_elementValue : MethodName := ⟨"TinyForgeModel", "elementValue", "(I)V"⟩
abbrev b_Model_empty : ByteArray := prog_13_method_64_code
def y_Model_empty : MethodName := ⟨"TinyForgeModel", "empty", "()I"⟩
abbrev b_Model_ends : ByteArray := prog_13_method_48_code
def y_Model_ends : MethodName := ⟨"TinyForgeModel", "ends", "(II)V"⟩
abbrev b_Model_enter : ByteArray := prog_13_method_78_code
def y_Model_enter : MethodName := ⟨"TinyForgeModel", "enter", "(I)V"⟩
abbrev b_Model_forge : ByteArray := prog_13_method_60_code
def y_Model_forge : MethodName := ⟨"TinyForgeModel", "forge", "()I"⟩
abbrev b_Model_functionPart : ByteArray := prog_13_method_55_code
def y_Model_functionPart : MethodName := ⟨"TinyForgeModel", "functionPart", "(I)V"⟩
abbrev b_Model_give : ByteArray := prog_13_method_63_code
def y_Model_give : MethodName := ⟨"TinyForgeModel", "give", "(I)I"⟩
abbrev b_Model_global : ByteArray := prog_13_method_51_code
def y_Model_global : MethodName := ⟨"TinyForgeModel", "global", "(I)I"⟩
abbrev b_Model_goOn : ByteArray := prog_13_method_87_code
def y_Model_goOn : MethodName := ⟨"TinyForgeModel", "goOn", "()V"⟩
abbrev b_Model_hand : ByteArray := prog_13_method_66_code
def y_Model_hand : MethodName := ⟨"TinyForgeModel", "hand", "(I)V"⟩
abbrev b_Model_hold : ByteArray := prog_13_method_28_code
def y_Model_hold : MethodName := ⟨"TinyForgeModel", "hold", "(II)V"⟩
abbrev b_Model_inBrackets : ByteArray := prog_13_method_44_code
def y_Model_inBrackets : MethodName := ⟨"TinyForgeModel", "inBrackets", "()I"⟩
abbrev b_Model_init : ByteArray := prog_13_method_1_code
def y_Model_init : MethodName := ⟨"TinyForgeModel", "<init>", "()V"⟩
abbrev b_Model_is : ByteArray := prog_13_method_16_code
def y_Model_is : MethodName := ⟨"TinyForgeModel", "is", "(IJ)Z"⟩
abbrev b_Model_isDigit : ByteArray := prog_13_method_5_code
def y_Model_isDigit : MethodName := ⟨"TinyForgeModel", "isDigit", "(I)Z"⟩
abbrev b_Model_isIn : ByteArray := prog_13_method_74_code
def y_Model_isIn : MethodName := ⟨"TinyForgeModel", "isIn", "(II)Z"⟩
abbrev b_Model_isLetter : ByteArray := prog_13_method_4_code
def y_Model_isLetter : MethodName := ⟨"TinyForgeModel", "isLetter", "(I)Z"⟩
abbrev b_Model_isSign : ByteArray := prog_13_method_10_code
def y_Model_isSign : MethodName := ⟨"TinyForgeModel", "isSign", "(I)Z"⟩
abbrev b_Model_isWordToken : ByteArray := prog_13_method_17_code
def y_Model_isWordToken : MethodName := ⟨"TinyForgeModel", "isWordToken", "(I)Z"⟩
abbrev b_Model_leave : ByteArray := prog_13_method_79_code
def y_Model_leave : MethodName := ⟨"TinyForgeModel", "leave", "(I)V"⟩
abbrev b_Model_leaveBlock : ByteArray := prog_13_method_42_code
def y_Model_leaveBlock : MethodName := ⟨"TinyForgeModel", "leaveBlock", "()V"⟩
abbrev b_Model_loop : ByteArray := prog_13_method_83_code
def y_Model_loop : MethodName := ⟨"TinyForgeModel", "loop", "(II)V"⟩
abbrev b_Model_mainFunction : ByteArray := prog_13_method_58_code
def y_Model_mainFunction : MethodName := ⟨"TinyForgeModel", "mainFunction", "()I"⟩
abbrev b_Model_makeGlobal : ByteArray := prog_13_method_52_code
def y_Model_makeGlobal : MethodName := ⟨"TinyForgeModel", "makeGlobal", "(IZI)I"⟩
abbrev b_Model_makeVariable : ByteArray := prog_13_method_39_code
def y_Model_makeVariable : MethodName := ⟨"TinyForgeModel", "makeVariable", "(I)V"⟩
abbrev b_Model_makes : ByteArray := prog_13_method_46_code
def y_Model_makes : MethodName := ⟨"TinyForgeModel", "makes", "()V"⟩
abbrev b_Model_nameAt : ByteArray := prog_13_method_13_code
def y_Model_nameAt : MethodName := ⟨"TinyForgeModel", "nameAt", "(I)I"⟩
abbrev b_Model_named : ByteArray := prog_13_method_47_code
def y_Model_named : MethodName := ⟨"TinyForgeModel", "named", "()V"⟩
abbrev b_Model_need : ByteArray := prog_13_method_22_code
def y_Model_need : MethodName := ⟨"TinyForgeModel", "need", "(J)V"⟩
abbrev b_Model_node : ByteArray := prog_13_method_20_code
def y_Model_node : MethodName := ⟨"TinyForgeModel", "node", "(IIII)I"⟩
abbrev b_Model_notName : ByteArray := prog_13_method_24_code
def y_Model_notName : MethodName := ⟨"TinyForgeModel", "notName", "(I)V"⟩
abbrev b_Model_numberAt : ByteArray := prog_13_method_14_code
def y_Model_numberAt : MethodName := ⟨"TinyForgeModel", "numberAt", "(I)I"⟩
abbrev b_Model_opens : ByteArray := prog_13_method_23_code
def y_Model_opens : MethodName := ⟨"TinyForgeModel", "opens", "()V"⟩
abbrev b_Model_operand : ByteArray := prog_13_method_27_code
def y_Model_operand : MethodName := ⟨"TinyForgeModel", "operand", "(I)V"⟩
abbrev b_Model_output : ByteArray := prog_13_method_90_code
def y_Model_output : MethodName := ⟨"TinyForgeModel", "output", "(I)I"⟩
abbrev b_Model_pair : ByteArray := prog_13_method_72_code
def y_Model_pair : MethodName := ⟨"TinyForgeModel", "pair", "(II)V"⟩
abbrev b_Model_parameters : ByteArray := prog_13_method_54_code
def y_Model_parameters : MethodName := ⟨"TinyForgeModel", "parameters", "()I"⟩
abbrev b_Model_part : ByteArray := prog_13_method_56_code
def y_Model_part : MethodName := ⟨"TinyForgeModel", "part", "()V"⟩
abbrev b_Model_partAt : ByteArray := prog_13_method_76_code
def y_Model_partAt : MethodName := ⟨"TinyForgeModel", "partAt", "(II)I"⟩
abbrev b_Model_popValue : ByteArray := prog_13_method_67_code
def y_Model_popValue : MethodName := ⟨"TinyForgeModel", "popValue", "()I"⟩
abbrev b_Model_print : ByteArray := prog_13_method_84_code
def y_Model_print : MethodName := ⟨"TinyForgeModel", "print", "()V"⟩
abbrev b_Model_prints : ByteArray := prog_13_method_49_code
def y_Model_prints : MethodName := ⟨"TinyForgeModel", "prints", "()V"⟩
abbrev b_Model_put : ByteArray := prog_13_method_82_code
def y_Model_put : MethodName := ⟨"TinyForgeModel", "put", "(II)V"⟩
abbrev b_Model_read : ByteArray := prog_13_method_59_code
def y_Model_read : MethodName := ⟨"TinyForgeModel", "read", "()V"⟩
abbrev b_Model_readInput : ByteArray := prog_13_method_85_code
def y_Model_readInput : MethodName := ⟨"TinyForgeModel", "readInput", "()V"⟩
abbrev b_Model_readNumber : ByteArray := prog_13_method_34_code
def y_Model_readNumber : MethodName := ⟨"TinyForgeModel", "readNumber", "()Z"⟩
abbrev b_Model_refuse : ByteArray := prog_13_method_3_code
def y_Model_refuse : MethodName := ⟨"TinyForgeModel", "refuse", "(I)I"⟩
abbrev b_Model_result : ByteArray := prog_13_method_89_code
def y_Model_result : MethodName := ⟨"TinyForgeModel", "result", "()I"⟩
abbrev b_Model_returnValue : ByteArray := prog_13_method_80_code
def y_Model_returnValue : MethodName := ⟨"TinyForgeModel", "returnValue", "()V"⟩
abbrev b_Model_run : ByteArray := prog_13_method_88_code
def y_Model_run : MethodName := ⟨"TinyForgeModel", "run", "()I"⟩
abbrev b_Model_sees : ByteArray := prog_13_method_18_code
def y_Model_sees : MethodName := ⟨"TinyForgeModel", "sees", "(J)Z"⟩
abbrev b_Model_settle : ByteArray := prog_13_method_29_code
def y_Model_settle : MethodName := ⟨"TinyForgeModel", "settle", "(I)V"⟩
abbrev b_Model_settleNames : ByteArray := prog_13_method_57_code
def y_Model_settleNames : MethodName := ⟨"TinyForgeModel", "settleNames", "()V"⟩
abbrev b_Model_sign : ByteArray := prog_13_method_9_code
def y_Model_sign : MethodName := ⟨"TinyForgeModel", "sign", "(I)I"⟩
abbrev b_Model_signLength : ByteArray := prog_13_method_11_code
def y_Model_signLength : MethodName := ⟨"TinyForgeModel", "signLength", "(I)I"⟩
abbrev b_Model_signed : ByteArray := prog_13_method_73_code
def y_Model_signed : MethodName := ⟨"TinyForgeModel", "signed", "(I)V"⟩
abbrev b_Model_spoil : ByteArray := prog_13_method_21_code
def y_Model_spoil : MethodName := ⟨"TinyForgeModel", "spoil", "()V"⟩
abbrev b_Model_start : ByteArray := prog_13_method_65_code
def y_Model_start : MethodName := ⟨"TinyForgeModel", "start", "(I)V"⟩
abbrev b_Model_startOr : ByteArray := prog_13_method_81_code
def y_Model_startOr : MethodName := ⟨"TinyForgeModel", "startOr", "(I)V"⟩
abbrev b_Model_statement : ByteArray := prog_13_method_50_code
def y_Model_statement : MethodName := ⟨"TinyForgeModel", "statement", "()V"⟩
abbrev b_Model_strength : ByteArray := prog_13_method_26_code
def y_Model_strength : MethodName := ⟨"TinyForgeModel", "strength", "(I)I"⟩
abbrev b_Model_strengthOf : ByteArray := prog_13_method_25_code
def y_Model_strengthOf : MethodName := ⟨"TinyForgeModel", "strengthOf", "(II)I"⟩
abbrev b_Model_takeTokens : ByteArray := prog_13_method_15_code
def y_Model_takeTokens : MethodName := ⟨"TinyForgeModel", "takeTokens", "()V"⟩
abbrev b_Model_thrown : ByteArray := prog_13_method_2_code
def y_Model_thrown : MethodName := ⟨"TinyForgeModel", "thrown", "()I"⟩
abbrev b_Model_tick : ByteArray := prog_13_method_68_code
def y_Model_tick : MethodName := ⟨"TinyForgeModel", "tick", "()V"⟩
abbrev b_Model_ticks : ByteArray := prog_13_method_91_code
def y_Model_ticks : MethodName := ⟨"TinyForgeModel", "ticks", "()I"⟩
abbrev b_Model_type : ByteArray := prog_13_method_6_code
def y_Model_type : MethodName := ⟨"TinyForgeModel", "type", "(JI)I"⟩
abbrev b_Model_value : ByteArray := prog_13_method_38_code
def y_Model_value : MethodName := ⟨"TinyForgeModel", "value", "(I)I"⟩
abbrev b_Model_variable : ByteArray := prog_13_method_31_code
def y_Model_variable : MethodName := ⟨"TinyForgeModel", "variable", "(I)I"⟩
abbrev b_Model_where : ByteArray := prog_13_method_62_code
def y_Model_where : MethodName := ⟨"TinyForgeModel", "where", "()I"⟩
abbrev b_Model_whole : ByteArray := prog_13_method_43_code
def y_Model_whole : MethodName := ⟨"TinyForgeModel", "whole", "(I)V"⟩
abbrev b_Model_why : ByteArray := prog_13_method_61_code
def y_Model_why : MethodName := ⟨"TinyForgeModel", "why", "()I"⟩
abbrev b_Preconditions_checkIndex : ByteArray := prog_26_method_11_code
def y_Preconditions_checkIndex : MethodName := ⟨"jdk/internal/util/Preconditions", "checkIndex", "(IILjava/util/function/BiFunction;)I"⟩
abbrev b_Program_add : ByteArray := prog_7_method_2_code
def y_Program_add : MethodName := ⟨"TinyForge$Program", "add", "(III)V"⟩
abbrev b_Program_addJump : ByteArray := prog_7_method_3_code
def y_Program_addJump : MethodName := ⟨"TinyForge$Program", "addJump", "(I)I"⟩
abbrev b_Program_init : ByteArray := prog_7_method_1_code
def y_Program_init : MethodName := ⟨"TinyForge$Program", "<init>", "()V"⟩
abbrev b_Program_land : ByteArray := prog_7_method_4_code
def y_Program_land : MethodName := ⟨"TinyForge$Program", "land", "(I)V"⟩
abbrev b_Refusal_blameName : ByteArray := prog_8_method_5_code
def y_Refusal_blameName : MethodName := ⟨"TinyForge$Refusal", "blameName", "(I)V"⟩
abbrev b_Refusal_forget : ByteArray := prog_8_method_2_code
def y_Refusal_forget : MethodName := ⟨"TinyForge$Refusal", "forget", "()V"⟩
abbrev b_Refusal_init : ByteArray := prog_8_method_1_code
def y_Refusal_init : MethodName := ⟨"TinyForge$Refusal", "<init>", "()V"⟩
abbrev b_Refusal_isNone : ByteArray := prog_8_method_3_code
def y_Refusal_isNone : MethodName := ⟨"TinyForge$Refusal", "isNone", "()Z"⟩
abbrev b_Refusal_refuse : ByteArray := prog_8_method_4_code
def y_Refusal_refuse : MethodName := ⟨"TinyForge$Refusal", "refuse", "(II)V"⟩
abbrev b_Refusal_refuseWrongName : ByteArray := prog_8_method_6_code
def y_Refusal_refuseWrongName : MethodName := ⟨"TinyForge$Refusal", "refuseWrongName", "()V"⟩
abbrev b_StringLatin1_canEncode : ByteArray := prog_21_method_4_code
def y_StringLatin1_canEncode : MethodName := ⟨"java/lang/StringLatin1", "canEncode", "(I)Z"⟩
abbrev b_StringLatin1_charAt : ByteArray := prog_21_method_2_code
def y_StringLatin1_charAt : MethodName := ⟨"java/lang/StringLatin1", "charAt", "([BI)C"⟩
abbrev b_StringLatin1_indexOf : ByteArray := prog_21_method_22_code
def y_StringLatin1_indexOf : MethodName := ⟨"java/lang/StringLatin1", "indexOf", "([BIII)I"⟩
abbrev b_StringLatin1_indexOfChar : ByteArray := prog_21_method_23_code
def y_StringLatin1_indexOfChar : MethodName := ⟨"java/lang/StringLatin1", "indexOfChar", "([BIII)I"⟩
abbrev b_String_charAt : ByteArray := prog_20_method_56_code
def y_String_charAt : MethodName := ⟨"java/lang/String", "charAt", "(I)C"⟩
abbrev b_String_checkIndex : ByteArray := prog_20_method_155_code
def y_String_checkIndex : MethodName := ⟨"java/lang/String", "checkIndex", "(II)V"⟩
abbrev b_String_coder : ByteArray := prog_20_method_152_code
def y_String_coder : MethodName := ⟨"java/lang/String", "coder", "()B"⟩
abbrev b_String_indexOf_0 : ByteArray := prog_20_method_79_code
def y_String_indexOf_0 : MethodName := ⟨"java/lang/String", "indexOf", "(I)I"⟩
abbrev b_String_indexOf_1 : ByteArray := prog_20_method_80_code
def y_String_indexOf_1 : MethodName := ⟨"java/lang/String", "indexOf", "(II)I"⟩
abbrev b_String_isLatin1 : ByteArray := prog_20_method_154_code
def y_String_isLatin1 : MethodName := ⟨"java/lang/String", "isLatin1", "()Z"⟩
abbrev b_String_length : ByteArray := prog_20_method_54_code
def y_String_length : MethodName := ⟨"java/lang/String", "length", "()I"⟩
abbrev b_Text_add : ByteArray := prog_9_method_6_code
def y_Text_add : MethodName := ⟨"TinyForge$Text", "add", "(JI)V"⟩
abbrev b_Text_areCharacters : ByteArray := prog_9_method_2_code
def y_Text_areCharacters : MethodName := ⟨"TinyForge$Text", "areCharacters", "(JI)Z"⟩
abbrev b_Text_at : ByteArray := prog_9_method_7_code
def y_Text_at : MethodName := ⟨"TinyForge$Text", "at", "(I)C"⟩
abbrev b_Text_byteOf : ByteArray := prog_9_method_4_code
def y_Text_byteOf : MethodName := ⟨"TinyForge$Text", "byteOf", "(JI)I"⟩
abbrev b_Text_hasRoomFor : ByteArray := prog_9_method_5_code
def y_Text_hasRoomFor : MethodName := ⟨"TinyForge$Text", "hasRoomFor", "(I)Z"⟩
abbrev b_Text_init : ByteArray := prog_9_method_1_code
def y_Text_init : MethodName := ⟨"TinyForge$Text", "<init>", "()V"⟩
abbrev b_Text_isBlank : ByteArray := prog_9_method_8_code
def y_Text_isBlank : MethodName := ⟨"TinyForge$Text", "isBlank", "(I)Z"⟩
abbrev b_Text_isDigit : ByteArray := prog_9_method_10_code
def y_Text_isDigit : MethodName := ⟨"TinyForge$Text", "isDigit", "(I)Z"⟩
abbrev b_Text_isLetter : ByteArray := prog_9_method_9_code
def y_Text_isLetter : MethodName := ⟨"TinyForge$Text", "isLetter", "(I)Z"⟩
abbrev b_Text_packed : ByteArray := prog_9_method_3_code
def y_Text_packed : MethodName := ⟨"TinyForge$Text", "packed", "(Ljava/lang/String;)J"⟩
abbrev b_Text_spells : ByteArray := prog_9_method_11_code
def y_Text_spells : MethodName := ⟨"TinyForge$Text", "spells", "(Ljava/lang/String;II)Z"⟩
abbrev b_Tokens_add : ByteArray := prog_10_method_9_code
def y_Tokens_add : MethodName := ⟨"TinyForge$Tokens", "add", "(IIJ)V"⟩
abbrev b_Tokens_init : ByteArray := prog_10_method_1_code
def y_Tokens_init : MethodName := ⟨"TinyForge$Tokens", "<init>", "(LTinyForge$Text;LTinyForge$Refusal;)V"⟩
abbrev b_Tokens_isDoubleSign : ByteArray := prog_10_method_8_code
def y_Tokens_isDoubleSign : MethodName := ⟨"TinyForge$Tokens", "isDoubleSign", "(CC)Z"⟩
abbrev b_Tokens_kindOf : ByteArray := prog_10_method_10_code
def y_Tokens_kindOf : MethodName := ⟨"TinyForge$Tokens", "kindOf", "(I)I"⟩
abbrev b_Tokens_kindOfName : ByteArray := prog_10_method_5_code
def y_Tokens_kindOfName : MethodName := ⟨"TinyForge$Tokens", "kindOfName", "(II)I"⟩
abbrev b_Tokens_placeOf : ByteArray := prog_10_method_11_code
def y_Tokens_placeOf : MethodName := ⟨"TinyForge$Tokens", "placeOf", "(I)I"⟩
abbrev b_Tokens_takeAll : ByteArray := prog_10_method_2_code
def y_Tokens_takeAll : MethodName := ⟨"TinyForge$Tokens", "takeAll", "()V"⟩
abbrev b_Tokens_takeName : ByteArray := prog_10_method_4_code
def y_Tokens_takeName : MethodName := ⟨"TinyForge$Tokens", "takeName", "(I)I"⟩
abbrev b_Tokens_takeNumber : ByteArray := prog_10_method_6_code
def y_Tokens_takeNumber : MethodName := ⟨"TinyForge$Tokens", "takeNumber", "(I)I"⟩
abbrev b_Tokens_takeOne : ByteArray := prog_10_method_3_code
def y_Tokens_takeOne : MethodName := ⟨"TinyForge$Tokens", "takeOne", "(I)I"⟩
abbrev b_Tokens_takeSign : ByteArray := prog_10_method_7_code
def y_Tokens_takeSign : MethodName := ⟨"TinyForge$Tokens", "takeSign", "(I)I"⟩
abbrev b_Tokens_valueOf : ByteArray := prog_10_method_12_code
def y_Tokens_valueOf : MethodName := ⟨"TinyForge$Tokens", "valueOf", "(I)J"⟩
abbrev b_Variables_endBlock : ByteArray := prog_11_method_4_code
def y_Variables_endBlock : MethodName := ⟨"TinyForge$Variables", "endBlock", "(I)V"⟩
abbrev b_Variables_find : ByteArray := prog_11_method_9_code
def y_Variables_find : MethodName := ⟨"TinyForge$Variables", "find", "(J)I"⟩
abbrev b_Variables_init : ByteArray := prog_11_method_1_code
def y_Variables_init : MethodName := ⟨"TinyForge$Variables", "<init>", "(LTinyForge$Tokens;LTinyForge$Refusal;)V"⟩
abbrev b_Variables_make : ByteArray := prog_11_method_5_code
def y_Variables_make : MethodName := ⟨"TinyForge$Variables", "make", "(I)I"⟩
abbrev b_Variables_mustNotHide : ByteArray := prog_11_method_7_code
def y_Variables_mustNotHide : MethodName := ⟨"TinyForge$Variables", "mustNotHide", "(I)V"⟩
abbrev b_Variables_mustNotMake : ByteArray := prog_11_method_8_code
def y_Variables_mustNotMake : MethodName := ⟨"TinyForge$Variables", "mustNotMake", "(I)V"⟩
abbrev b_Variables_startBlock : ByteArray := prog_11_method_3_code
def y_Variables_startBlock : MethodName := ⟨"TinyForge$Variables", "startBlock", "()I"⟩
abbrev b_Variables_startFunction : ByteArray := prog_11_method_2_code
def y_Variables_startFunction : MethodName := ⟨"TinyForge$Variables", "startFunction", "()V"⟩
abbrev b_Variables_use : ByteArray := prog_11_method_6_code
def y_Variables_use : MethodName := ⟨"TinyForge$Variables", "use", "(I)I"⟩
