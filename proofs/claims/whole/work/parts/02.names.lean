def nR0 : String := "AddressGrammar"
def nT0 : u_T := fun k => match k with
  | 0 => ("AddressGrammar", "text", "[C", true)
  | 1 => ("AddressGrammar", "textLength", "I", false)
  | 2 => ("AddressGrammar", "latestFault", "I", false)
  | 3 => ("AddressGrammar", "form", "LAddressGrammar$Form;", true)
  | 4 => ("AddressGrammar", "draft", "LAddressGrammar$Form;", true)
  | 5 => ("AddressGrammar", "lines", "LAddressGrammar$Lines;", true)
  | 6 => ("AddressGrammar", "pairs", "LAddressGrammar$Pairs;", true)
  | 7 => ("AddressGrammar", "search", "LAddressGrammar$Search;", true)
  | 8 => ("AddressGrammar", "printed", "[C", true)
  | _ => ("AddressGrammar", "printedLength", "I", false)
def nY0 : Nat → FieldType := fun k => match k with
  | 0 => (.array .char)
  | 1 => .int
  | 2 => .int
  | 3 => (.object "AddressGrammar$Form")
  | 4 => (.object "AddressGrammar$Form")
  | 5 => (.object "AddressGrammar$Lines")
  | 6 => (.object "AddressGrammar$Pairs")
  | 7 => (.object "AddressGrammar$Search")
  | 8 => (.array .char)
  | _ => .int
theorem nN0 : ∀ a, a < 10 → ∀ b, b < 10 → a ≠ b → (nT0 a).2.1 ≠ (nT0 b).2.1 := by decide +kernel
theorem nP0 : ∀ k, k < 10 → parseFieldDescriptor (nT0 k).2.2.1 = some (nY0 k) := by decide +kernel
def nR1 : String := "AddressGrammar$Form"
def nT1 : u_T := fun k => match k with
  | 0 => ("AddressGrammar$Form", "size", "I", false)
  | 1 => ("AddressGrammar$Form", "rows", "I", false)
  | 2 => ("AddressGrammar$Form", "kinds", "[I", true)
  | 3 => ("AddressGrammar$Form", "missingCosts", "[I", true)
  | 4 => ("AddressGrammar$Form", "rowEnds", "[Z", true)
  | 5 => ("AddressGrammar$Form", "used", "[Z", true)
  | 6 => ("AddressGrammar$Form", "partsInRow", "I", false)
  | _ => ("AddressGrammar$Form", "digits", "I", false)
def nY1 : Nat → FieldType := fun k => match k with
  | 0 => .int
  | 1 => .int
  | 2 => (.array .int)
  | 3 => (.array .int)
  | 4 => (.array .boolean)
  | 5 => (.array .boolean)
  | 6 => .int
  | _ => .int
theorem nN1 : ∀ a, a < 8 → ∀ b, b < 8 → a ≠ b → (nT1 a).2.1 ≠ (nT1 b).2.1 := by decide +kernel
theorem nP1 : ∀ k, k < 8 → parseFieldDescriptor (nT1 k).2.2.1 = some (nY1 k) := by decide +kernel
def nR2 : String := "AddressGrammar$Lines"
def nT2 : u_T := fun k => match k with
  | 0 => ("AddressGrammar$Lines", "count", "I", false)
  | 1 => ("AddressGrammar$Lines", "places", "[I", true)
  | 2 => ("AddressGrammar$Lines", "alternatives", "[I", true)
  | 3 => ("AddressGrammar$Lines", "kinds", "[I", true)
  | 4 => ("AddressGrammar$Lines", "values", "[I", true)
  | _ => ("AddressGrammar$Lines", "costs", "[I", true)
def nY2 : Nat → FieldType := fun k => match k with
  | 0 => .int
  | 1 => (.array .int)
  | 2 => (.array .int)
  | 3 => (.array .int)
  | 4 => (.array .int)
  | _ => (.array .int)
theorem nN2 : ∀ a, a < 6 → ∀ b, b < 6 → a ≠ b → (nT2 a).2.1 ≠ (nT2 b).2.1 := by decide +kernel
theorem nP2 : ∀ k, k < 6 → parseFieldDescriptor (nT2 k).2.2.1 = some (nY2 k) := by decide +kernel
def nR3 : String := "AddressGrammar$Pairs"
def nT3 : u_T := fun k => match k with
  | 0 => ("AddressGrammar$Pairs", "count", "I", false)
  | 1 => ("AddressGrammar$Pairs", "kinds", "[I", true)
  | 2 => ("AddressGrammar$Pairs", "values", "[I", true)
  | _ => ("AddressGrammar$Pairs", "others", "[I", true)
def nY3 : Nat → FieldType := fun k => match k with
  | 0 => .int
  | 1 => (.array .int)
  | 2 => (.array .int)
  | _ => (.array .int)
theorem nN3 : ∀ a, a < 4 → ∀ b, b < 4 → a ≠ b → (nT3 a).2.1 ≠ (nT3 b).2.1 := by decide +kernel
theorem nP3 : ∀ k, k < 4 → parseFieldDescriptor (nT3 k).2.2.1 = some (nY3 k) := by decide +kernel
def nR4 : String := "AddressGrammar$Search"
def nT4 : u_T := fun k => match k with
  | 0 => ("AddressGrammar$Search", "first", "LAddressGrammar$Reading;", false)
  | 1 => ("AddressGrammar$Search", "second", "LAddressGrammar$Reading;", false)
  | 2 => ("AddressGrammar$Search", "linesReached", "I", false)
  | 3 => ("AddressGrammar$Search", "candidate", "LAddressGrammar$Reading;", false)
  | 4 => ("AddressGrammar$Search", "found", "Z", false)
  | 5 => ("AddressGrammar$Search", "form", "LAddressGrammar$Form;", true)
  | 6 => ("AddressGrammar$Search", "lines", "LAddressGrammar$Lines;", true)
  | 7 => ("AddressGrammar$Search", "pairs", "LAddressGrammar$Pairs;", true)
  | 8 => ("AddressGrammar$Search", "reached", "[Z", true)
  | 9 => ("AddressGrammar$Search", "sums", "[I", true)
  | 10 => ("AddressGrammar$Search", "choices", "[I", true)
  | 11 => ("AddressGrammar$Search", "ranksBehind", "[I", true)
  | 12 => ("AddressGrammar$Search", "placeValues", "[I", true)
  | 13 => ("AddressGrammar$Search", "placeValueCount", "I", false)
  | _ => ("AddressGrammar$Search", "assumedPlace", "I", false)
def nY4 : Nat → FieldType := fun k => match k with
  | 0 => (.object "AddressGrammar$Reading")
  | 1 => (.object "AddressGrammar$Reading")
  | 2 => .int
  | 3 => (.object "AddressGrammar$Reading")
  | 4 => .boolean
  | 5 => (.object "AddressGrammar$Form")
  | 6 => (.object "AddressGrammar$Lines")
  | 7 => (.object "AddressGrammar$Pairs")
  | 8 => (.array .boolean)
  | 9 => (.array .int)
  | 10 => (.array .int)
  | 11 => (.array .int)
  | 12 => (.array .int)
  | 13 => .int
  | _ => .int
theorem nN4 : ∀ a, a < 15 → ∀ b, b < 15 → a ≠ b → (nT4 a).2.1 ≠ (nT4 b).2.1 := by decide +kernel
theorem nP4 : ∀ k, k < 15 → parseFieldDescriptor (nT4 k).2.2.1 = some (nY4 k) := by decide +kernel
def nR5 : String := "AddressGrammar$Reading"
def nT5 : u_T := fun k => match k with
  | 0 => ("AddressGrammar$Reading", "size", "I", false)
  | 1 => ("AddressGrammar$Reading", "total", "I", false)
  | 2 => ("AddressGrammar$Reading", "choiceCount", "I", false)
  | 3 => ("AddressGrammar$Reading", "choices", "[I", true)
  | _ => ("AddressGrammar$Reading", "facts", "[I", true)
def nY5 : Nat → FieldType := fun k => match k with
  | 0 => .int
  | 1 => .int
  | 2 => .int
  | 3 => (.array .int)
  | _ => (.array .int)
theorem nN5 : ∀ a, a < 5 → ∀ b, b < 5 → a ≠ b → (nT5 a).2.1 ≠ (nT5 b).2.1 := by decide +kernel
theorem nP5 : ∀ k, k < 5 → parseFieldDescriptor (nT5 k).2.2.1 = some (nY5 k) := by decide +kernel
def nR6 : String := "AddressGrammarModel"
def nT6 : u_T := fun k => match k with
  | 0 => ("AddressGrammarModel", "thrown", "I", false)
  | 1 => ("AddressGrammarModel", "size", "I", false)
  | 2 => ("AddressGrammarModel", "text", "[I", true)
  | 3 => ("AddressGrammarModel", "wrong", "I", false)
  | 4 => ("AddressGrammarModel", "rows", "I", false)
  | 5 => ("AddressGrammarModel", "parts", "I", false)
  | 6 => ("AddressGrammarModel", "kinds", "[I", true)
  | 7 => ("AddressGrammarModel", "rowOf", "[I", true)
  | 8 => ("AddressGrammarModel", "missing", "[I", true)
  | 9 => ("AddressGrammarModel", "newParts", "I", false)
  | 10 => ("AddressGrammarModel", "newKinds", "[I", true)
  | 11 => ("AddressGrammarModel", "newRows", "[I", true)
  | 12 => ("AddressGrammarModel", "newMissing", "[I", true)
  | 13 => ("AddressGrammarModel", "lines", "I", false)
  | 14 => ("AddressGrammarModel", "placeCounts", "[I", true)
  | 15 => ("AddressGrammarModel", "counts", "[I", true)
  | 16 => ("AddressGrammarModel", "altKinds", "[I", true)
  | 17 => ("AddressGrammarModel", "altValues", "[I", true)
  | 18 => ("AddressGrammarModel", "altCosts", "[I", true)
  | 19 => ("AddressGrammarModel", "told", "I", false)
  | 20 => ("AddressGrammarModel", "tells", "[I", true)
  | 21 => ("AddressGrammarModel", "known", "Z", false)
  | 22 => ("AddressGrammarModel", "found", "I", false)
  | 23 => ("AddressGrammarModel", "best", "[I", true)
  | 24 => ("AddressGrammarModel", "sums", "[I", true)
  | 25 => ("AddressGrammarModel", "choices", "[I", true)
  | 26 => ("AddressGrammarModel", "lineAt", "[I", true)
  | 27 => ("AddressGrammarModel", "placeAt", "[I", true)
  | 28 => ("AddressGrammarModel", "printed", "I", false)
  | _ => ("AddressGrammarModel", "page", "[I", true)
def nY6 : Nat → FieldType := fun k => match k with
  | 0 => .int
  | 1 => .int
  | 2 => (.array .int)
  | 3 => .int
  | 4 => .int
  | 5 => .int
  | 6 => (.array .int)
  | 7 => (.array .int)
  | 8 => (.array .int)
  | 9 => .int
  | 10 => (.array .int)
  | 11 => (.array .int)
  | 12 => (.array .int)
  | 13 => .int
  | 14 => (.array .int)
  | 15 => (.array .int)
  | 16 => (.array .int)
  | 17 => (.array .int)
  | 18 => (.array .int)
  | 19 => .int
  | 20 => (.array .int)
  | 21 => .boolean
  | 22 => .int
  | 23 => (.array .int)
  | 24 => (.array .int)
  | 25 => (.array .int)
  | 26 => (.array .int)
  | 27 => (.array .int)
  | 28 => .int
  | _ => (.array .int)
theorem nN6 : ∀ a, a < 30 → ∀ b, b < 30 → a ≠ b → (nT6 a).2.1 ≠ (nT6 b).2.1 := by decide +kernel
theorem nP6 : ∀ k, k < 30 → parseFieldDescriptor (nT6 k).2.2.1 = some (nY6 k) := by decide +kernel
abbrev classes : List vw_C := [(nR0, nT0, 10), (nR1, nT1, 8), (nR2, nT2, 6), (nR3, nT3, 4), (nR4, nT4, 15), (nR5, nT5, 5), (nR6, nT6, 30)]
def am_ks : List (List Nat) := [[1, 0, 0, 1, 1, 1, 1, 1, 1, 0], [0, 0, 1, 1, 1, 1, 0, 0], [0, 1, 1, 1, 1, 1], [0, 1, 1, 1], [1, 1, 0, 1, 2, 1, 1, 1, 1, 1, 1, 1, 1, 0, 0], [0, 0, 0, 1, 1], [0, 0, 1, 0, 0, 0, 1, 1, 1, 0, 1, 1, 1, 0, 1, 1, 1, 1, 1, 0, 1, 2, 0, 1, 1, 1, 1, 1, 0, 1]]
def am_ty (ci k : Nat) : FieldType := match ci with
  | 0 => nY0 k
  | 1 => nY1 k
  | 2 => nY2 k
  | 3 => nY3 k
  | 4 => nY4 k
  | 5 => nY5 k
  | _ => nY6 k
def am_sh : List ((Nat × Nat) ⊕ Nat) := [.inr 0, .inl (1, 60), .inr 1, .inl (0, 9), .inl (0, 9), .inl (2, 9), .inl (2, 9), .inr 1, .inl (0, 9), .inl (0, 9), .inl (2, 9), .inl (2, 9), .inr 2, .inl (0, 6), .inl (0, 30), .inl (0, 120), .inl (0, 120), .inl (0, 120), .inr 3, .inl (0, 60), .inl (0, 60), .inl (0, 60), .inr 4, .inr 5, .inl (0, 9), .inl (0, 45), .inr 5, .inl (0, 9), .inl (0, 45), .inr 5, .inl (0, 9), .inl (0, 45), .inl (2, 420), .inl (0, 840), .inl (0, 840), .inl (0, 840), .inl (0, 120), .inl (1, 42), .inr 6, .inl (0, 60), .inl (0, 9), .inl (0, 9), .inl (0, 9), .inl (0, 9), .inl (0, 9), .inl (0, 9), .inl (0, 6), .inl (0, 30), .inl (0, 120), .inl (0, 120), .inl (0, 120), .inl (0, 180), .inl (0, 18), .inl (0, 2), .inl (0, 10), .inl (0, 10), .inl (0, 10), .inl (0, 80)]
-- cells: 0 x, 1 x.text, 2 form, 3 form.kinds, 4 form.missingCosts, 5 form.rowEnds, 6 form.used, 7 draft, 8 draft.kinds, 9 draft.missingCosts, 10 draft.rowEnds, 11 draft.used, 12 lines, 13 lines.places, 14 lines.alternatives, 15 lines.kinds, 16 lines.values, 17 lines.costs, 18 pairs, 19 pairs.kinds, 20 pairs.values, 21 pairs.others, 22 search, 23 first, 24 first.choices, 25 first.facts, 26 second, 27 second.choices, 28 second.facts, 29 candidate, 30 candidate.choices, 31 candidate.facts, 32 reached, 33 sums, 34 choices, 35 ranksBehind, 36 placeValues, 37 x.printed, 38 m, 39 m.text, 40 m.kinds, 41 m.rowOf, 42 m.missing, 43 m.newKinds, 44 m.newRows, 45 m.newMissing, 46 m.placeCounts, 47 m.counts, 48 m.altKinds, 49 m.altValues, 50 m.altCosts, 51 m.tells, 52 m.best, 53 m.sums, 54 m.choices, 55 m.lineAt, 56 m.placeAt, 57 m.page
def am_tyk (kd : Nat) (ty : FieldType) : Bool := match kd, ty with
  | 0, .int => true
  | 2, .boolean => true
  | 1, .object _ => true
  | 1, .array _ => true
  | _, _ => false
def am_strs : List (String × Nat × Nat) := [("AddressGrammar", 143, 0), ("AddressGrammar$Form", 56, 0), ("AddressGrammar", 65, 1)]
def am_texts : List String := ["NFSHXBCPL", "the text is not a form"]
def am_nest : List (String × Nat × MethodName × String) := [("AddressGrammar", 22, ⟨"AddressGrammar$Form", "<init>", "()V"⟩, "AddressGrammar"), ("AddressGrammar", 32, ⟨"AddressGrammar$Lines", "<init>", "()V"⟩, "AddressGrammar"), ("AddressGrammar", 39, ⟨"AddressGrammar$Pairs", "<init>", "()V"⟩, "AddressGrammar"), ("AddressGrammar$Search", 13, ⟨"AddressGrammar$Reading", "<init>", "()V"⟩, "AddressGrammar")]
