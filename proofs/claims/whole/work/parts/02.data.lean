/-! classes whose objects our memory holds, by their fields; the words that may go to a callee; the words on nest mates -/
def pT0 : u_T := fun q => match q with
  | 0 => ("CircuitChecker", "tape", "LCircuitChecker$Tape;", true)
  | 1 => ("CircuitChecker", "circuit", "LCircuitChecker$Circuit;", true)
  | 2 => ("CircuitChecker", "reader", "LCircuitChecker$TextReader;", true)
  | 3 => ("CircuitChecker", "values", "LCircuitChecker$Values;", true)
  | 4 => ("CircuitChecker", "steps", "LCircuitChecker$Steps;", true)
  | 5 => ("CircuitChecker", "claims", "LCircuitChecker$Claims;", true)
  | 6 => ("CircuitChecker", "shortest", "LCircuitChecker$Trace;", true)
  | _ => ("CircuitChecker", "state", "I", false)
def pY0 : Nat → FieldType := fun q => match q with
  | 0 => (.object "CircuitChecker$Tape")
  | 1 => (.object "CircuitChecker$Circuit")
  | 2 => (.object "CircuitChecker$TextReader")
  | 3 => (.object "CircuitChecker$Values")
  | 4 => (.object "CircuitChecker$Steps")
  | 5 => (.object "CircuitChecker$Claims")
  | 6 => (.object "CircuitChecker$Trace")
  | _ => .int
theorem pY0_ok : ∀ q, q < 8 → parseFieldDescriptor (pT0 q).2.2.1 = some (pY0 q) := by decide +kernel
theorem pN0_ok : ∀ a, a < 8 → ∀ b, b < 8 → a ≠ b → (pT0 a).2.1 ≠ (pT0 b).2.1 := by decide +kernel
def pT1 : u_T := fun q => match q with
  | 0 => ("CircuitChecker$Tape", "bytes", "[B", true)
  | _ => ("CircuitChecker$Tape", "length", "I", false)
def pY1 : Nat → FieldType := fun q => match q with
  | 0 => (.array .byte)
  | _ => .int
theorem pY1_ok : ∀ q, q < 2 → parseFieldDescriptor (pT1 q).2.2.1 = some (pY1 q) := by decide +kernel
theorem pN1_ok : ∀ a, a < 2 → ∀ b, b < 2 → a ≠ b → (pT1 a).2.1 ≠ (pT1 b).2.1 := by decide +kernel
def pT2 : u_T := fun q => match q with
  | 0 => ("CircuitChecker$Circuit", "kind", "[I", true)
  | 1 => ("CircuitChecker$Circuit", "bits", "[I", true)
  | 2 => ("CircuitChecker$Circuit", "part", "[I", true)
  | 3 => ("CircuitChecker$Circuit", "logic", "LCircuitChecker$Code;", true)
  | 4 => ("CircuitChecker$Circuit", "formulas", "LCircuitChecker$Code;", true)
  | 5 => ("CircuitChecker$Circuit", "names", "I", false)
  | 6 => ("CircuitChecker$Circuit", "specs", "I", false)
  | 7 => ("CircuitChecker$Circuit", "regBits", "I", false)
  | 8 => ("CircuitChecker$Circuit", "inputBits", "I", false)
  | 9 => ("CircuitChecker$Circuit", "costs", "I", false)
  | _ => ("CircuitChecker$Circuit", "first", "I", false)
def pY2 : Nat → FieldType := fun q => match q with
  | 0 => (.array .int)
  | 1 => (.array .int)
  | 2 => (.array .int)
  | 3 => (.object "CircuitChecker$Code")
  | 4 => (.object "CircuitChecker$Code")
  | 5 => .int
  | 6 => .int
  | 7 => .int
  | 8 => .int
  | 9 => .int
  | _ => .int
theorem pY2_ok : ∀ q, q < 11 → parseFieldDescriptor (pT2 q).2.2.1 = some (pY2 q) := by decide +kernel
theorem pN2_ok : ∀ a, a < 11 → ∀ b, b < 11 → a ≠ b → (pT2 a).2.1 ≠ (pT2 b).2.1 := by decide +kernel
def pT3 : u_T := fun q => match q with
  | 0 => ("CircuitChecker$Code", "orders", "[I", true)
  | 1 => ("CircuitChecker$Code", "abouts", "[I", true)
  | _ => ("CircuitChecker$Code", "length", "I", false)
def pY3 : Nat → FieldType := fun q => match q with
  | 0 => (.array .int)
  | 1 => (.array .int)
  | _ => .int
theorem pY3_ok : ∀ q, q < 3 → parseFieldDescriptor (pT3 q).2.2.1 = some (pY3 q) := by decide +kernel
theorem pN3_ok : ∀ a, a < 3 → ∀ b, b < 3 → a ≠ b → (pT3 a).2.1 ≠ (pT3 b).2.1 := by decide +kernel
def pT4 : u_T := fun q => match q with
  | 0 => ("CircuitChecker$TextReader", "circuit", "LCircuitChecker$Circuit;", true)
  | 1 => ("CircuitChecker$TextReader", "tokens", "LCircuitChecker$Tokens;", true)
  | 2 => ("CircuitChecker$TextReader", "now", "I", false)
  | 3 => ("CircuitChecker$TextReader", "kind", "I", false)
  | 4 => ("CircuitChecker$TextReader", "declaredBy", "[I", true)
  | 5 => ("CircuitChecker$TextReader", "hasNext", "[I", true)
  | 6 => ("CircuitChecker$TextReader", "waiting", "[I", true)
  | 7 => ("CircuitChecker$TextReader", "waitingCount", "I", false)
  | 8 => ("CircuitChecker$TextReader", "code", "LCircuitChecker$Code;", false)
  | 9 => ("CircuitChecker$TextReader", "found", "I", false)
  | _ => ("CircuitChecker$TextReader", "place", "I", false)
def pY4 : Nat → FieldType := fun q => match q with
  | 0 => (.object "CircuitChecker$Circuit")
  | 1 => (.object "CircuitChecker$Tokens")
  | 2 => .int
  | 3 => .int
  | 4 => (.array .int)
  | 5 => (.array .int)
  | 6 => (.array .int)
  | 7 => .int
  | 8 => (.object "CircuitChecker$Code")
  | 9 => .int
  | _ => .int
theorem pY4_ok : ∀ q, q < 11 → parseFieldDescriptor (pT4 q).2.2.1 = some (pY4 q) := by decide +kernel
theorem pN4_ok : ∀ a, a < 11 → ∀ b, b < 11 → a ≠ b → (pT4 a).2.1 ≠ (pT4 b).2.1 := by decide +kernel
def pT5 : u_T := fun q => match q with
  | 0 => ("CircuitChecker$Tokens", "tape", "LCircuitChecker$Tape;", true)
  | 1 => ("CircuitChecker$Tokens", "kind", "[I", true)
  | 2 => ("CircuitChecker$Tokens", "from", "[I", true)
  | 3 => ("CircuitChecker$Tokens", "size", "[I", true)
  | 4 => ("CircuitChecker$Tokens", "number", "[I", true)
  | 5 => ("CircuitChecker$Tokens", "length", "I", false)
  | _ => ("CircuitChecker$Tokens", "behind", "I", false)
def pY5 : Nat → FieldType := fun q => match q with
  | 0 => (.object "CircuitChecker$Tape")
  | 1 => (.array .int)
  | 2 => (.array .int)
  | 3 => (.array .int)
  | 4 => (.array .int)
  | 5 => .int
  | _ => .int
theorem pY5_ok : ∀ q, q < 7 → parseFieldDescriptor (pT5 q).2.2.1 = some (pY5 q) := by decide +kernel
theorem pN5_ok : ∀ a, a < 7 → ∀ b, b < 7 → a ≠ b → (pT5 a).2.1 ≠ (pT5 b).2.1 := by decide +kernel
def pT6 : u_T := fun q => match q with
  | 0 => ("CircuitChecker$Values", "circuit", "LCircuitChecker$Circuit;", true)
  | 1 => ("CircuitChecker$Values", "cells", "[J", true)
  | 2 => ("CircuitChecker$Values", "stack", "[I", true)
  | 3 => ("CircuitChecker$Values", "top", "I", false)
  | _ => ("CircuitChecker$Values", "longs", "I", false)
def pY6 : Nat → FieldType := fun q => match q with
  | 0 => (.object "CircuitChecker$Circuit")
  | 1 => (.array .long)
  | 2 => (.array .int)
  | 3 => .int
  | _ => .int
theorem pY6_ok : ∀ q, q < 5 → parseFieldDescriptor (pT6 q).2.2.1 = some (pY6 q) := by decide +kernel
theorem pN6_ok : ∀ a, a < 5 → ∀ b, b < 5 → a ≠ b → (pT6 a).2.1 ≠ (pT6 b).2.1 := by decide +kernel
def pT7 : u_T := fun q => match q with
  | 0 => ("CircuitChecker$Steps", "circuit", "LCircuitChecker$Circuit;", true)
  | 1 => ("CircuitChecker$Steps", "stateCount", "I", false)
  | 2 => ("CircuitChecker$Steps", "choices", "I", false)
  | 3 => ("CircuitChecker$Steps", "cases", "I", false)
  | 4 => ("CircuitChecker$Steps", "next", "[I", true)
  | 5 => ("CircuitChecker$Steps", "into", "[I", true)
  | 6 => ("CircuitChecker$Steps", "intoFrom", "[I", true)
  | 7 => ("CircuitChecker$Steps", "order", "[I", true)
  | 8 => ("CircuitChecker$Steps", "met", "I", false)
  | 9 => ("CircuitChecker$Steps", "distance", "[I", true)
  | 10 => ("CircuitChecker$Steps", "before", "[I", true)
  | _ => ("CircuitChecker$Steps", "inputs", "[I", true)
def pY7 : Nat → FieldType := fun q => match q with
  | 0 => (.object "CircuitChecker$Circuit")
  | 1 => .int
  | 2 => .int
  | 3 => .int
  | 4 => (.array .int)
  | 5 => (.array .int)
  | 6 => (.array .int)
  | 7 => (.array .int)
  | 8 => .int
  | 9 => (.array .int)
  | 10 => (.array .int)
  | _ => (.array .int)
theorem pY7_ok : ∀ q, q < 12 → parseFieldDescriptor (pT7 q).2.2.1 = some (pY7 q) := by decide +kernel
theorem pN7_ok : ∀ a, a < 12 → ∀ b, b < 12 → a ≠ b → (pT7 a).2.1 ≠ (pT7 b).2.1 := by decide +kernel
def pT8 : u_T := fun q => match q with
  | 0 => ("CircuitChecker$Claims", "steps", "LCircuitChecker$Steps;", true)
  | 1 => ("CircuitChecker$Claims", "sets", "[J", true)
  | 2 => ("CircuitChecker$Claims", "top", "I", false)
  | 3 => ("CircuitChecker$Claims", "queue", "[I", true)
  | 4 => ("CircuitChecker$Claims", "queued", "I", false)
  | _ => ("CircuitChecker$Claims", "missing", "[I", true)
def pY8 : Nat → FieldType := fun q => match q with
  | 0 => (.object "CircuitChecker$Steps")
  | 1 => (.array .long)
  | 2 => .int
  | 3 => (.array .int)
  | 4 => .int
  | _ => (.array .int)
theorem pY8_ok : ∀ q, q < 6 → parseFieldDescriptor (pT8 q).2.2.1 = some (pY8 q) := by decide +kernel
theorem pN8_ok : ∀ a, a < 6 → ∀ b, b < 6 → a ≠ b → (pT8 a).2.1 ≠ (pT8 b).2.1 := by decide +kernel
def pT9 : u_T := fun q => match q with
  | 0 => ("CircuitChecker$Trace", "state", "[I", true)
  | 1 => ("CircuitChecker$Trace", "inputs", "[I", true)
  | 2 => ("CircuitChecker$Trace", "length", "I", false)
  | _ => ("CircuitChecker$Trace", "there", "Z", false)
def pY9 : Nat → FieldType := fun q => match q with
  | 0 => (.array .int)
  | 1 => (.array .int)
  | 2 => .int
  | _ => .boolean
theorem pY9_ok : ∀ q, q < 4 → parseFieldDescriptor (pT9 q).2.2.1 = some (pY9 q) := by decide +kernel
theorem pN9_ok : ∀ a, a < 4 → ∀ b, b < 4 → a ≠ b → (pT9 a).2.1 ≠ (pT9 b).2.1 := by decide +kernel
def pT10 : u_T := fun q => match q with
  | 0 => ("CircuitCheckerModel", "tape", "[B", true)
  | 1 => ("CircuitCheckerModel", "size", "I", false)
  | 2 => ("CircuitCheckerModel", "thrown", "I", false)
  | 3 => ("CircuitCheckerModel", "faultKind", "I", false)
  | 4 => ("CircuitCheckerModel", "faultPlace", "I", false)
  | 5 => ("CircuitCheckerModel", "pos", "I", false)
  | 6 => ("CircuitCheckerModel", "token", "I", false)
  | 7 => ("CircuitCheckerModel", "tokenAt", "I", false)
  | 8 => ("CircuitCheckerModel", "tokenEnd", "I", false)
  | 9 => ("CircuitCheckerModel", "tokens", "I", false)
  | 10 => ("CircuitCheckerModel", "seen", "Z", false)
  | 11 => ("CircuitCheckerModel", "costs", "I", false)
  | 12 => ("CircuitCheckerModel", "wordAt", "[I", true)
  | 13 => ("CircuitCheckerModel", "wordSize", "[I", true)
  | 14 => ("CircuitCheckerModel", "kind", "[I", true)
  | 15 => ("CircuitCheckerModel", "what", "[I", true)
  | 16 => ("CircuitCheckerModel", "names", "I", false)
  | 17 => ("CircuitCheckerModel", "regBits", "[I", true)
  | 18 => ("CircuitCheckerModel", "regFirst", "[I", true)
  | 19 => ("CircuitCheckerModel", "regNext", "[I", true)
  | 20 => ("CircuitCheckerModel", "inputBits", "[I", true)
  | 21 => ("CircuitCheckerModel", "wire", "[I", true)
  | 22 => ("CircuitCheckerModel", "spec", "[I", true)
  | 23 => ("CircuitCheckerModel", "regs", "I", false)
  | 24 => ("CircuitCheckerModel", "inputs", "I", false)
  | 25 => ("CircuitCheckerModel", "wires", "I", false)
  | 26 => ("CircuitCheckerModel", "specs", "I", false)
  | 27 => ("CircuitCheckerModel", "stateBits", "I", false)
  | 28 => ("CircuitCheckerModel", "allInputBits", "I", false)
  | 29 => ("CircuitCheckerModel", "sort", "[I", true)
  | 30 => ("CircuitCheckerModel", "of", "[I", true)
  | 31 => ("CircuitCheckerModel", "kid", "[I", true)
  | 32 => ("CircuitCheckerModel", "beside", "[I", true)
  | 33 => ("CircuitCheckerModel", "by", "[I", true)
  | 34 => ("CircuitCheckerModel", "nodes", "I", false)
  | 35 => ("CircuitCheckerModel", "how", "[I", true)
  | 36 => ("CircuitCheckerModel", "one", "[I", true)
  | 37 => ("CircuitCheckerModel", "two", "[I", true)
  | 38 => ("CircuitCheckerModel", "formulas", "I", false)
  | 39 => ("CircuitCheckerModel", "regNow", "[I", true)
  | 40 => ("CircuitCheckerModel", "inputNow", "[I", true)
  | 41 => ("CircuitCheckerModel", "wireNow", "[I", true)
  | 42 => ("CircuitCheckerModel", "after", "[[I", true)
  | 43 => ("CircuitCheckerModel", "set", "[[Z", true)
  | 44 => ("CircuitCheckerModel", "work", "[Z", true)
  | 45 => ("CircuitCheckerModel", "specSet", "[[Z", true)
  | 46 => ("CircuitCheckerModel", "state", "I", false)
  | 47 => ("CircuitCheckerModel", "first", "I", false)
  | 48 => ("CircuitCheckerModel", "away", "[I", true)
  | 49 => ("CircuitCheckerModel", "traceState", "[I", true)
  | 50 => ("CircuitCheckerModel", "traceInput", "[I", true)
  | 51 => ("CircuitCheckerModel", "steps", "I", false)
  | _ => ("CircuitCheckerModel", "traced", "Z", false)
def pY10 : Nat → FieldType := fun q => match q with
  | 0 => (.array .byte)
  | 1 => .int
  | 2 => .int
  | 3 => .int
  | 4 => .int
  | 5 => .int
  | 6 => .int
  | 7 => .int
  | 8 => .int
  | 9 => .int
  | 10 => .boolean
  | 11 => .int
  | 12 => (.array .int)
  | 13 => (.array .int)
  | 14 => (.array .int)
  | 15 => (.array .int)
  | 16 => .int
  | 17 => (.array .int)
  | 18 => (.array .int)
  | 19 => (.array .int)
  | 20 => (.array .int)
  | 21 => (.array .int)
  | 22 => (.array .int)
  | 23 => .int
  | 24 => .int
  | 25 => .int
  | 26 => .int
  | 27 => .int
  | 28 => .int
  | 29 => (.array .int)
  | 30 => (.array .int)
  | 31 => (.array .int)
  | 32 => (.array .int)
  | 33 => (.array .int)
  | 34 => .int
  | 35 => (.array .int)
  | 36 => (.array .int)
  | 37 => (.array .int)
  | 38 => .int
  | 39 => (.array .int)
  | 40 => (.array .int)
  | 41 => (.array .int)
  | 42 => (.array (.array .int))
  | 43 => (.array (.array .boolean))
  | 44 => (.array .boolean)
  | 45 => (.array (.array .boolean))
  | 46 => .int
  | 47 => .int
  | 48 => (.array .int)
  | 49 => (.array .int)
  | 50 => (.array .int)
  | 51 => .int
  | _ => .boolean
theorem pY10_ok : ∀ q, q < 53 → parseFieldDescriptor (pT10 q).2.2.1 = some (pY10 q) := by decide +kernel
theorem pN10_ok : ∀ a, a < 53 → ∀ b, b < 53 → a ≠ b → (pT10 a).2.1 ≠ (pT10 b).2.1 := by decide +kernel
def pT11 : u_T := fun q => match q with
  | 0 => ("java/lang/Throwable", "cause", "Ljava/lang/Throwable;", false)
  | 1 => ("java/lang/Throwable", "stackTrace", "[Ljava/lang/StackTraceElement;", false)
  | 2 => ("java/lang/Throwable", "suppressedExceptions", "Ljava/util/List;", false)
  | 3 => ("java/lang/Throwable", "detailMessage", "Ljava/lang/String;", false)
  | 4 => ("java/lang/Throwable", "backtrace", "Ljava/lang/Object;", false)
  | 5 => ("CircuitCheckerModel$Wrong", "kind", "I", true)
  | 6 => ("CircuitCheckerModel$Wrong", "place", "I", true)
  | _ => ("java/lang/Throwable", "depth", "I", false)
def pY11 : Nat → FieldType := fun q => match q with
  | 0 => (.object "java/lang/Throwable")
  | 1 => (.array (.object "java/lang/StackTraceElement"))
  | 2 => (.object "java/util/List")
  | 3 => (.object "java/lang/String")
  | 4 => (.object "java/lang/Object")
  | 5 => .int
  | 6 => .int
  | _ => .int
theorem pY11_ok : ∀ q, q < 8 → parseFieldDescriptor (pT11 q).2.2.1 = some (pY11 q) := by decide +kernel
theorem pN11_ok : ∀ a, a < 8 → ∀ b, b < 8 → a ≠ b → (pT11 a).2.1 ≠ (pT11 b).2.1 := by decide +kernel
def pT12 : u_T := fun _ => ("", "", "", false)
def pY12 : Nat → FieldType := fun _ => .int
def pT13 : u_T := fun _ => ("", "", "", false)
def pY13 : Nat → FieldType := fun _ => .int
def pT14 : u_T := fun _ => ("", "", "", false)
def pY14 : Nat → FieldType := fun _ => .int
def pm_cl : List vw_C := [("CircuitChecker", pT0, 8), ("CircuitChecker$Tape", pT1, 2), ("CircuitChecker$Circuit", pT2, 11), ("CircuitChecker$Code", pT3, 3), ("CircuitChecker$TextReader", pT4, 11), ("CircuitChecker$Tokens", pT5, 7), ("CircuitChecker$Values", pT6, 5), ("CircuitChecker$Steps", pT7, 12), ("CircuitChecker$Claims", pT8, 6), ("CircuitChecker$Trace", pT9, 4), ("CircuitCheckerModel", pT10, 53), ("CircuitCheckerModel$Wrong", pT11, 8), ("java/lang/IllegalStateException", pT12, 0), ("java/lang/IllegalArgumentException", pT13, 0), ("java/util/NoSuchElementException", pT14, 0)]
/-- the methods that have handlers -/
def pm_HS : List (MethodName × List (Nat × Nat × Nat × Nat)) := [(⟨"CircuitCheckerLaw", "feed", "(LCircuitChecker;IIIII[J)I"⟩, [(0, 16, 19, 13)]), (⟨"CircuitCheckerLaw", "end", "(LCircuitChecker;I[J)I"⟩, [(0, 9, 12, 19)]), (⟨"CircuitCheckerLaw", "holds", "(LCircuitChecker;I[J)I"⟩, [(0, 16, 19, 25)]), (⟨"CircuitCheckerLaw", "states", "(LCircuitChecker;I[J)I"⟩, [(0, 9, 12, 25)]), (⟨"CircuitCheckerLaw", "at", "(LCircuitChecker;II[J)I"⟩, [(0, 17, 20, 25)]), (⟨"CircuitCheckerLaw", "trace", "(LCircuitChecker;I[J)I"⟩, [(0, 9, 12, 25)]), (⟨"CircuitCheckerLaw", "step", "(LCircuitChecker;II[J)I"⟩, [(0, 10, 13, 25), (0, 10, 17, 19)]), (⟨"CircuitCheckerLaw", "tick", "(LCircuitChecker;I[J)I"⟩, [(0, 9, 12, 19)]), (⟨"CircuitCheckerLaw", "go", "(LCircuitChecker;I[J)I"⟩, [(0, 9, 12, 19)]), (⟨"CircuitCheckerLaw", "value", "(LCircuitChecker;II[J)I"⟩, [(0, 10, 13, 25), (0, 10, 17, 19)]), (⟨"CircuitCheckerModel", "read", "()I"⟩, [(19, 23, 26, 187)])]
def pm_nest : Cond → Bool
  | .fieldLinkNest _ _ _ _ _ _ => true
  | .methodLinkNest _ _ _ _ => true
  | _ => false
def pm_face : Cond → Bool
  | .declares _ => true
  | .castable _ _ => true
  | _ => false
def pm_FW : List Cond := lw_tbl.filter pm_face
def pm_TS : List Cond := lw_tbl.filter goodWord
theorem pm_inF {w : Cond} (i : Nat) (h : tables_1[i]? = some w) (hg : pm_face w = true) : w ∈ pm_FW := List.mem_filter.mpr ⟨List.mem_append_right _ (List.mem_of_getElem? h), hg⟩
def pm_NS : List Cond := lw_tbl.filter pm_nest
theorem pm_in {w : Cond} (i : Nat) (h : tables_1[i]? = some w) (hg : goodWord w = true) : w ∈ pm_TS := List.mem_filter.mpr ⟨List.mem_append_right _ (List.mem_of_getElem? h), hg⟩
theorem pm_inN {w : Cond} (i : Nat) (h : tables_1[i]? = some w) (hg : pm_nest w = true) : w ∈ pm_NS := List.mem_filter.mpr ⟨List.mem_append_right _ (List.mem_of_getElem? h), hg⟩
theorem pm_inS {q : MethodName × Nat} (i : Nat) (h : lw_privs[i]? = some q) : Cond.selects q.1.cls q.1 q.1 ∈ pm_TS := List.mem_filter.mpr ⟨List.mem_append_left _ (List.mem_map.mpr ⟨q, List.mem_of_getElem? h, rfl⟩), rfl⟩
theorem pm_TS_good : ∀ w ∈ pm_TS, ((w.onTables && w.keeps) = true ∨ ∃ ty, w = .arrayClass ty) := fun w h => good_of_word (List.mem_filter.mp h).2
theorem pW0 : ∀ w ∈ u_ws "CircuitChecker" pT0 8, w ∈ pm_TS := by
  have h : u_ws "CircuitChecker" pT0 8 = ([590, 592, 594, 596, 598, 600, 602, 604] : List Nat).filterMap (fun i => tables_1[i]?) := by decide +kernel
  have hg : (u_ws "CircuitChecker" pT0 8).all goodWord = true := by decide +kernel
  intro w hw
  have hgw := List.all_eq_true.mp hg w hw
  rw [h] at hw
  obtain ⟨i, -, hi⟩ := List.mem_filterMap.mp hw
  exact pm_in i hi hgw
theorem pW1 : ∀ w ∈ u_ws "CircuitChecker$Tape" pT1 2, w ∈ pm_TS := by
  have h : u_ws "CircuitChecker$Tape" pT1 2 = ([49, 51] : List Nat).filterMap (fun i => tables_1[i]?) := by decide +kernel
  have hg : (u_ws "CircuitChecker$Tape" pT1 2).all goodWord = true := by decide +kernel
  intro w hw
  have hgw := List.all_eq_true.mp hg w hw
  rw [h] at hw
  obtain ⟨i, -, hi⟩ := List.mem_filterMap.mp hw
  exact pm_in i hi hgw
theorem pW2 : ∀ w ∈ u_ws "CircuitChecker$Circuit" pT2 11, w ∈ pm_TS := by
  have h : u_ws "CircuitChecker$Circuit" pT2 11 = ([121, 123, 125, 127, 129, 131, 133, 135, 137, 139, 141] : List Nat).filterMap (fun i => tables_1[i]?) := by decide +kernel
  have hg : (u_ws "CircuitChecker$Circuit" pT2 11).all goodWord = true := by decide +kernel
  intro w hw
  have hgw := List.all_eq_true.mp hg w hw
  rw [h] at hw
  obtain ⟨i, -, hi⟩ := List.mem_filterMap.mp hw
  exact pm_in i hi hgw
theorem pW3 : ∀ w ∈ u_ws "CircuitChecker$Code" pT3 3, w ∈ pm_TS := by
  have h : u_ws "CircuitChecker$Code" pT3 3 = ([74, 76, 78] : List Nat).filterMap (fun i => tables_1[i]?) := by decide +kernel
  have hg : (u_ws "CircuitChecker$Code" pT3 3).all goodWord = true := by decide +kernel
  intro w hw
  have hgw := List.all_eq_true.mp hg w hw
  rw [h] at hw
  obtain ⟨i, -, hi⟩ := List.mem_filterMap.mp hw
  exact pm_in i hi hgw
theorem pW4 : ∀ w ∈ u_ws "CircuitChecker$TextReader" pT4 11, w ∈ pm_TS := by
  have h : u_ws "CircuitChecker$TextReader" pT4 11 = ([195, 197, 199, 201, 203, 205, 207, 209, 211, 213, 215] : List Nat).filterMap (fun i => tables_1[i]?) := by decide +kernel
  have hg : (u_ws "CircuitChecker$TextReader" pT4 11).all goodWord = true := by decide +kernel
  intro w hw
  have hgw := List.all_eq_true.mp hg w hw
  rw [h] at hw
  obtain ⟨i, -, hi⟩ := List.mem_filterMap.mp hw
  exact pm_in i hi hgw
theorem pW5 : ∀ w ∈ u_ws "CircuitChecker$Tokens" pT5 7, w ∈ pm_TS := by
  have h : u_ws "CircuitChecker$Tokens" pT5 7 = ([167, 169, 171, 173, 175, 177, 179] : List Nat).filterMap (fun i => tables_1[i]?) := by decide +kernel
  have hg : (u_ws "CircuitChecker$Tokens" pT5 7).all goodWord = true := by decide +kernel
  intro w hw
  have hgw := List.all_eq_true.mp hg w hw
  rw [h] at hw
  obtain ⟨i, -, hi⟩ := List.mem_filterMap.mp hw
  exact pm_in i hi hgw
theorem pW6 : ∀ w ∈ u_ws "CircuitChecker$Values" pT6 5, w ∈ pm_TS := by
  have h : u_ws "CircuitChecker$Values" pT6 5 = ([230, 232, 234, 236, 238] : List Nat).filterMap (fun i => tables_1[i]?) := by decide +kernel
  have hg : (u_ws "CircuitChecker$Values" pT6 5).all goodWord = true := by decide +kernel
  intro w hw
  have hgw := List.all_eq_true.mp hg w hw
  rw [h] at hw
  obtain ⟨i, -, hi⟩ := List.mem_filterMap.mp hw
  exact pm_in i hi hgw
theorem pW7 : ∀ w ∈ u_ws "CircuitChecker$Steps" pT7 12, w ∈ pm_TS := by
  have h : u_ws "CircuitChecker$Steps" pT7 12 = ([273, 275, 277, 279, 281, 283, 285, 287, 289, 291, 293, 295] : List Nat).filterMap (fun i => tables_1[i]?) := by decide +kernel
  have hg : (u_ws "CircuitChecker$Steps" pT7 12).all goodWord = true := by decide +kernel
  intro w hw
  have hgw := List.all_eq_true.mp hg w hw
  rw [h] at hw
  obtain ⟨i, -, hi⟩ := List.mem_filterMap.mp hw
  exact pm_in i hi hgw
theorem pW8 : ∀ w ∈ u_ws "CircuitChecker$Claims" pT8 6, w ∈ pm_TS := by
  have h : u_ws "CircuitChecker$Claims" pT8 6 = ([310, 312, 314, 316, 318, 320] : List Nat).filterMap (fun i => tables_1[i]?) := by decide +kernel
  have hg : (u_ws "CircuitChecker$Claims" pT8 6).all goodWord = true := by decide +kernel
  intro w hw
  have hgw := List.all_eq_true.mp hg w hw
  rw [h] at hw
  obtain ⟨i, -, hi⟩ := List.mem_filterMap.mp hw
  exact pm_in i hi hgw
theorem pW9 : ∀ w ∈ u_ws "CircuitChecker$Trace" pT9 4, w ∈ pm_TS := by
  have h : u_ws "CircuitChecker$Trace" pT9 4 = ([337, 339, 341, 343] : List Nat).filterMap (fun i => tables_1[i]?) := by decide +kernel
  have hg : (u_ws "CircuitChecker$Trace" pT9 4).all goodWord = true := by decide +kernel
  intro w hw
  have hgw := List.all_eq_true.mp hg w hw
  rw [h] at hw
  obtain ⟨i, -, hi⟩ := List.mem_filterMap.mp hw
  exact pm_in i hi hgw
theorem pW10 : ∀ w ∈ u_ws "CircuitCheckerModel" pT10 53, w ∈ pm_TS := by
  have h : u_ws "CircuitCheckerModel" pT10 53 = ([1228, 1230, 1232, 1234, 1236, 1238, 1240, 1242, 1244, 1246, 1248, 1250, 1252, 1254, 1256, 1258, 1260, 1262, 1264, 1266, 1268, 1270, 1272, 1274, 1276, 1278, 1280, 1282, 1284, 1286, 1288, 1290, 1292, 1294, 1296, 1298, 1300, 1302, 1304, 1306, 1308, 1310, 1312, 1314, 1316, 1318, 1320, 1322, 1324, 1326, 1328, 1330, 1332] : List Nat).filterMap (fun i => tables_1[i]?) := by decide +kernel
  have hg : (u_ws "CircuitCheckerModel" pT10 53).all goodWord = true := by decide +kernel
  intro w hw
  have hgw := List.all_eq_true.mp hg w hw
  rw [h] at hw
  obtain ⟨i, -, hi⟩ := List.mem_filterMap.mp hw
  exact pm_in i hi hgw
theorem pW11 : ∀ w ∈ u_ws "CircuitCheckerModel$Wrong" pT11 8, w ∈ pm_TS := by
  have h : u_ws "CircuitCheckerModel$Wrong" pT11 8 = ([1377, 1378, 1379, 1380, 1381, 1398, 1400, 1402] : List Nat).filterMap (fun i => tables_1[i]?) := by decide +kernel
  have hg : (u_ws "CircuitCheckerModel$Wrong" pT11 8).all goodWord = true := by decide +kernel
  intro w hw
  have hgw := List.all_eq_true.mp hg w hw
  rw [h] at hw
  obtain ⟨i, -, hi⟩ := List.mem_filterMap.mp hw
  exact pm_in i hi hgw
