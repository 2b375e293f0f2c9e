/-! the classes whose objects the world holds: by their places here; fields in this order -/
def RC0 : String := "VectorLanguage"
def FC0 : u_T := fun k => match k with
  | 0 => ("VectorLanguage", "program", "LVectorLanguage$Program;", true)
  | 1 => ("VectorLanguage", "evaluator", "LVectorLanguage$Evaluator;", true)
  | _ => ("VectorLanguage", "last", "LVectorLanguage$Value;", false)
def tC0 : Nat → FieldType := fun k => match k with
  | 0 => .object "VectorLanguage$Program"
  | 1 => .object "VectorLanguage$Evaluator"
  | _ => .object "VectorLanguage$Value"
theorem tC0_ok : ∀ k, k < 3 → parseFieldDescriptor (FC0 k).2.2.1 = some (tC0 k) := by decide +kernel
theorem nC0 : ∀ a, a < 3 → ∀ b, b < 3 → a ≠ b → (FC0 a).2.1 ≠ (FC0 b).2.1 := by decide +kernel
abbrev dC0 : List Value := [.null, .null, .null]
theorem dC0_ok : ∀ j, j < 3 → defaultValue (tC0 j) = vp_V dC0 j := by
  intro j hj
  rcases (show j = 0 ∨ j = 1 ∨ j = 2 by omega) with rfl | rfl | rfl <;> rfl
theorem iC0 : ∀ w ∈ u_ws RC0 FC0 3, w ∈ zbig :=
  za (zin 180 (by decide +kernel) rfl) (za (zin 182 (by decide +kernel) rfl) (za (zin 184 (by decide +kernel) rfl) (zn)))
def RC1 : String := "VectorLanguage$Program"
def FC1 : u_T := fun k => match k with
  | 0 => ("VectorLanguage$Program", "expressions", "[LVectorLanguage$Expression;", true)
  | _ => ("VectorLanguage$Program", "made", "I", false)
def tC1 : Nat → FieldType := fun k => match k with
  | 0 => .array (.object "VectorLanguage$Expression")
  | _ => .int
theorem tC1_ok : ∀ k, k < 2 → parseFieldDescriptor (FC1 k).2.2.1 = some (tC1 k) := by decide +kernel
theorem nC1 : ∀ a, a < 2 → ∀ b, b < 2 → a ≠ b → (FC1 a).2.1 ≠ (FC1 b).2.1 := by decide +kernel
abbrev dC1 : List Value := [.null, .int 0]
theorem dC1_ok : ∀ j, j < 2 → defaultValue (tC1 j) = vp_V dC1 j := by
  intro j hj
  rcases (show j = 0 ∨ j = 1 by omega) with rfl | rfl <;> rfl
theorem iC1 : ∀ w ∈ u_ws RC1 FC1 2, w ∈ zbig :=
  za (zin 46 (by decide +kernel) rfl) (za (zin 48 (by decide +kernel) rfl) (zn))
def RC2 : String := "VectorLanguage$Evaluator"
def FC2 : u_T := fun k => match k with
  | 0 => ("VectorLanguage$Evaluator", "program", "LVectorLanguage$Program;", true)
  | 1 => ("VectorLanguage$Evaluator", "global", "LVectorLanguage$Environment;", true)
  | 2 => ("VectorLanguage$Evaluator", "environments", "I", false)
  | 3 => ("VectorLanguage$Evaluator", "steps", "I", false)
  | 4 => ("VectorLanguage$Evaluator", "argumentsEvaluated", "I", false)
  | 5 => ("VectorLanguage$Evaluator", "failed", "I", false)
  | 6 => ("VectorLanguage$Evaluator", "ending", "LVectorLanguage$Environment;", false)
  | 7 => ("VectorLanguage$Evaluator", "endValue", "LVectorLanguage$Value;", false)
  | 8 => ("VectorLanguage$Evaluator", "places", "LVectorLanguage$Places;", true)
  | 9 => ("VectorLanguage$Evaluator", "nothing", "LVectorLanguage$Vector;", true)
  | 10 => ("VectorLanguage$Evaluator", "notAvailable", "LVectorLanguage$Vector;", true)
  | 11 => ("VectorLanguage$Evaluator", "zero", "LVectorLanguage$Vector;", true)
  | _ => ("VectorLanguage$Evaluator", "one", "LVectorLanguage$Vector;", true)
def tC2 : Nat → FieldType := fun k => match k with
  | 0 => .object "VectorLanguage$Program"
  | 1 => .object "VectorLanguage$Environment"
  | 2 => .int
  | 3 => .int
  | 4 => .int
  | 5 => .int
  | 6 => .object "VectorLanguage$Environment"
  | 7 => .object "VectorLanguage$Value"
  | 8 => .object "VectorLanguage$Places"
  | 9 => .object "VectorLanguage$Vector"
  | 10 => .object "VectorLanguage$Vector"
  | 11 => .object "VectorLanguage$Vector"
  | _ => .object "VectorLanguage$Vector"
theorem tC2_ok : ∀ k, k < 13 → parseFieldDescriptor (FC2 k).2.2.1 = some (tC2 k) := by decide +kernel
theorem nC2 : ∀ a, a < 13 → ∀ b, b < 13 → a ≠ b → (FC2 a).2.1 ≠ (FC2 b).2.1 := by decide +kernel
abbrev dC2 : List Value := [.null, .null, .int 0, .int 0, .int 0, .int 0, .null, .null, .null, .null, .null, .null, .null]
theorem dC2_ok : ∀ j, j < 13 → defaultValue (tC2 j) = vp_V dC2 j := by
  intro j hj
  rcases (show j = 0 ∨ j = 1 ∨ j = 2 ∨ j = 3 ∨ j = 4 ∨ j = 5 ∨ j = 6 ∨ j = 7 ∨ j = 8 ∨ j = 9 ∨ j = 10 ∨ j = 11 ∨ j = 12 by omega) with rfl | rfl | rfl | rfl | rfl | rfl | rfl | rfl | rfl | rfl | rfl | rfl | rfl <;> rfl
theorem iC2 : ∀ w ∈ u_ws RC2 FC2 13, w ∈ zbig :=
  za (zin 150 (by decide +kernel) rfl) (za (zin 152 (by decide +kernel) rfl) (za (zin 154 (by decide +kernel) rfl) (za (zin 156 (by decide +kernel) rfl) (za (zin 158 (by decide +kernel) rfl) (za (zin 160 (by decide +kernel) rfl) (za (zin 162 (by decide +kernel) rfl) (za (zin 164 (by decide +kernel) rfl) (za (zin 166 (by decide +kernel) rfl) (za (zin 168 (by decide +kernel) rfl) (za (zin 170 (by decide +kernel) rfl) (za (zin 172 (by decide +kernel) rfl) (za (zin 174 (by decide +kernel) rfl) (zn)))))))))))))
def RC3 : String := "VectorLanguage$Environment"
def FC3 : u_T := fun k => match k with
  | 0 => ("VectorLanguage$Environment", "held", "[LVectorLanguage$Held;", true)
  | 1 => ("VectorLanguage$Environment", "outer", "LVectorLanguage$Environment;", true)
  | 2 => ("VectorLanguage$Environment", "called", "LVectorLanguage$Function;", true)
  | 3 => ("VectorLanguage$Environment", "given", "I", true)
  | _ => ("VectorLanguage$Environment", "over", "Z", false)
def tC3 : Nat → FieldType := fun k => match k with
  | 0 => .array (.object "VectorLanguage$Held")
  | 1 => .object "VectorLanguage$Environment"
  | 2 => .object "VectorLanguage$Function"
  | 3 => .int
  | _ => .boolean
theorem tC3_ok : ∀ k, k < 5 → parseFieldDescriptor (FC3 k).2.2.1 = some (tC3 k) := by decide +kernel
theorem nC3 : ∀ a, a < 5 → ∀ b, b < 5 → a ≠ b → (FC3 a).2.1 ≠ (FC3 b).2.1 := by decide +kernel
abbrev dC3 : List Value := [.null, .null, .null, .int 0, .int 0]
theorem dC3_ok : ∀ j, j < 5 → defaultValue (tC3 j) = vp_V dC3 j := by
  intro j hj
  rcases (show j = 0 ∨ j = 1 ∨ j = 2 ∨ j = 3 ∨ j = 4 by omega) with rfl | rfl | rfl | rfl | rfl <;> rfl
theorem iC3 : ∀ w ∈ u_ws RC3 FC3 5, w ∈ zbig :=
  za (zin 74 (by decide +kernel) rfl) (za (zin 76 (by decide +kernel) rfl) (za (zin 78 (by decide +kernel) rfl) (za (zin 80 (by decide +kernel) rfl) (za (zin 82 (by decide +kernel) rfl) (zn)))))
def RC4 : String := "VectorLanguage$Places"
def FC4 : u_T := fun k => match k with
  | 0 => ("VectorLanguage$Places", "row", "[I", true)
  | 1 => ("VectorLanguage$Places", "count", "I", false)
  | 2 => ("VectorLanguage$Places", "anyBelow", "Z", false)
  | 3 => ("VectorLanguage$Places", "anyAbove", "Z", false)
  | _ => ("VectorLanguage$Places", "anyNa", "Z", false)
def tC4 : Nat → FieldType := fun k => match k with
  | 0 => .array (.int)
  | 1 => .int
  | 2 => .boolean
  | 3 => .boolean
  | _ => .boolean
theorem tC4_ok : ∀ k, k < 5 → parseFieldDescriptor (FC4 k).2.2.1 = some (tC4 k) := by decide +kernel
theorem nC4 : ∀ a, a < 5 → ∀ b, b < 5 → a ≠ b → (FC4 a).2.1 ≠ (FC4 b).2.1 := by decide +kernel
abbrev dC4 : List Value := [.null, .int 0, .int 0, .int 0, .int 0]
theorem dC4_ok : ∀ j, j < 5 → defaultValue (tC4 j) = vp_V dC4 j := by
  intro j hj
  rcases (show j = 0 ∨ j = 1 ∨ j = 2 ∨ j = 3 ∨ j = 4 by omega) with rfl | rfl | rfl | rfl | rfl <;> rfl
theorem iC4 : ∀ w ∈ u_ws RC4 FC4 5, w ∈ zbig :=
  za (zin 98 (by decide +kernel) rfl) (za (zin 100 (by decide +kernel) rfl) (za (zin 102 (by decide +kernel) rfl) (za (zin 104 (by decide +kernel) rfl) (za (zin 106 (by decide +kernel) rfl) (zn)))))
def RC5 : String := "VectorLanguage$Vector"
def FC5 : u_T := fun k => match k with
  | _ => ("VectorLanguage$Vector", "elements", "[I", true)
def tC5 : Nat → FieldType := fun k => match k with
  | _ => .array (.int)
theorem tC5_ok : ∀ k, k < 1 → parseFieldDescriptor (FC5 k).2.2.1 = some (tC5 k) := by decide +kernel
theorem nC5 : ∀ a, a < 1 → ∀ b, b < 1 → a ≠ b → (FC5 a).2.1 ≠ (FC5 b).2.1 := by decide +kernel
abbrev dC5 : List Value := [.null]
theorem dC5_ok : ∀ j, j < 1 → defaultValue (tC5 j) = vp_V dC5 j := by
  intro j hj
  rcases (show j = 0 by omega) with rfl <;> rfl
theorem iC5 : ∀ w ∈ u_ws RC5 FC5 1, w ∈ zbig :=
  za (zin 125 (by decide +kernel) rfl) (zn)
def RC6 : String := "VectorLanguage$Expression"
def FC6 : u_T := fun k => match k with
  | 0 => ("VectorLanguage$Expression", "kind", "I", true)
  | 1 => ("VectorLanguage$Expression", "a", "I", true)
  | 2 => ("VectorLanguage$Expression", "b", "I", true)
  | 3 => ("VectorLanguage$Expression", "c", "I", true)
  | _ => ("VectorLanguage$Expression", "number", "LVectorLanguage$Vector;", true)
def tC6 : Nat → FieldType := fun k => match k with
  | 0 => .int
  | 1 => .int
  | 2 => .int
  | 3 => .int
  | _ => .object "VectorLanguage$Vector"
theorem tC6_ok : ∀ k, k < 5 → parseFieldDescriptor (FC6 k).2.2.1 = some (tC6 k) := by decide +kernel
theorem nC6 : ∀ a, a < 5 → ∀ b, b < 5 → a ≠ b → (FC6 a).2.1 ≠ (FC6 b).2.1 := by decide +kernel
abbrev dC6 : List Value := [.int 0, .int 0, .int 0, .int 0, .null]
theorem dC6_ok : ∀ j, j < 5 → defaultValue (tC6 j) = vp_V dC6 j := by
  intro j hj
  rcases (show j = 0 ∨ j = 1 ∨ j = 2 ∨ j = 3 ∨ j = 4 by omega) with rfl | rfl | rfl | rfl | rfl <;> rfl
theorem iC6 : ∀ w ∈ u_ws RC6 FC6 5, w ∈ zbig :=
  za (zin 341 (by decide +kernel) rfl) (za (zin 343 (by decide +kernel) rfl) (za (zin 345 (by decide +kernel) rfl) (za (zin 347 (by decide +kernel) rfl) (za (zin 349 (by decide +kernel) rfl) (zn)))))
def RC7 : String := "VectorLanguage$Function"
def FC7 : u_T := fun k => match k with
  | 0 => ("VectorLanguage$Function", "body", "I", true)
  | 1 => ("VectorLanguage$Function", "parameters", "I", true)
  | 2 => ("VectorLanguage$Function", "first", "I", true)
  | _ => ("VectorLanguage$Function", "surroundings", "LVectorLanguage$Environment;", true)
def tC7 : Nat → FieldType := fun k => match k with
  | 0 => .int
  | 1 => .int
  | 2 => .int
  | _ => .object "VectorLanguage$Environment"
theorem tC7_ok : ∀ k, k < 4 → parseFieldDescriptor (FC7 k).2.2.1 = some (tC7 k) := by decide +kernel
theorem nC7 : ∀ a, a < 4 → ∀ b, b < 4 → a ≠ b → (FC7 a).2.1 ≠ (FC7 b).2.1 := by decide +kernel
abbrev dC7 : List Value := [.int 0, .int 0, .int 0, .null]
theorem dC7_ok : ∀ j, j < 4 → defaultValue (tC7 j) = vp_V dC7 j := by
  intro j hj
  rcases (show j = 0 ∨ j = 1 ∨ j = 2 ∨ j = 3 by omega) with rfl | rfl | rfl | rfl <;> rfl
theorem iC7 : ∀ w ∈ u_ws RC7 FC7 4, w ∈ zbig :=
  za (zin 532 (by decide +kernel) rfl) (za (zin 534 (by decide +kernel) rfl) (za (zin 536 (by decide +kernel) rfl) (za (zin 538 (by decide +kernel) rfl) (zn))))
def RC8 : String := "VectorLanguage$Argument"
def FC8 : u_T := fun k => match k with
  | 0 => ("VectorLanguage$Argument", "expression", "I", true)
  | 1 => ("VectorLanguage$Argument", "home", "LVectorLanguage$Environment;", true)
  | 2 => ("VectorLanguage$Argument", "known", "LVectorLanguage$Value;", false)
  | _ => ("VectorLanguage$Argument", "beingEvaluated", "Z", false)
def tC8 : Nat → FieldType := fun k => match k with
  | 0 => .int
  | 1 => .object "VectorLanguage$Environment"
  | 2 => .object "VectorLanguage$Value"
  | _ => .boolean
theorem tC8_ok : ∀ k, k < 4 → parseFieldDescriptor (FC8 k).2.2.1 = some (tC8 k) := by decide +kernel
theorem nC8 : ∀ a, a < 4 → ∀ b, b < 4 → a ≠ b → (FC8 a).2.1 ≠ (FC8 b).2.1 := by decide +kernel
abbrev dC8 : List Value := [.int 0, .null, .null, .int 0]
theorem dC8_ok : ∀ j, j < 4 → defaultValue (tC8 j) = vp_V dC8 j := by
  intro j hj
  rcases (show j = 0 ∨ j = 1 ∨ j = 2 ∨ j = 3 by omega) with rfl | rfl | rfl | rfl <;> rfl
theorem iC8 : ∀ w ∈ u_ws RC8 FC8 4, w ∈ zbig :=
  za (zin 560 (by decide +kernel) rfl) (za (zin 562 (by decide +kernel) rfl) (za (zin 564 (by decide +kernel) rfl) (za (zin 566 (by decide +kernel) rfl) (zn))))
def RC9 : String := "VectorLanguageModel"
def FC9 : u_T := fun k => match k with
  | 0 => ("VectorLanguageModel", "thrown", "I", false)
  | 1 => ("VectorLanguageModel", "kind", "[I", true)
  | 2 => ("VectorLanguageModel", "ea", "[I", true)
  | 3 => ("VectorLanguageModel", "eb", "[I", true)
  | 4 => ("VectorLanguageModel", "ec", "[I", true)
  | 5 => ("VectorLanguageModel", "expressions", "I", false)
  | 6 => ("VectorLanguageModel", "store", "[J", true)
  | 7 => ("VectorLanguageModel", "size", "[I", true)
  | 8 => ("VectorLanguageModel", "used", "[Z", true)
  | 9 => ("VectorLanguageModel", "next", "I", false)
  | 10 => ("VectorLanguageModel", "serial", "J", false)
  | 11 => ("VectorLanguageModel", "parent", "[I", true)
  | 12 => ("VectorLanguageModel", "function", "[I", true)
  | 13 => ("VectorLanguageModel", "supplied", "[I", true)
  | 14 => ("VectorLanguageModel", "made", "I", false)
  | 15 => ("VectorLanguageModel", "has", "[I", true)
  | 16 => ("VectorLanguageModel", "value", "[I", true)
  | 17 => ("VectorLanguageModel", "argument", "[I", true)
  | 18 => ("VectorLanguageModel", "argumentIn", "[I", true)
  | 19 => ("VectorLanguageModel", "work", "[I", true)
  | 20 => ("VectorLanguageModel", "in", "[I", true)
  | 21 => ("VectorLanguageModel", "state", "[I", true)
  | 22 => ("VectorLanguageModel", "va", "[I", true)
  | 23 => ("VectorLanguageModel", "vb", "[I", true)
  | 24 => ("VectorLanguageModel", "vc", "[I", true)
  | 25 => ("VectorLanguageModel", "top", "I", false)
  | 26 => ("VectorLanguageModel", "depth", "I", false)
  | 27 => ("VectorLanguageModel", "steps", "I", false)
  | 28 => ("VectorLanguageModel", "arguments", "I", false)
  | 29 => ("VectorLanguageModel", "error", "I", false)
  | 30 => ("VectorLanguageModel", "result", "I", false)
  | 31 => ("VectorLanguageModel", "failure", "I", false)
  | _ => ("VectorLanguageModel", "told", "[I", true)
def tC9 : Nat → FieldType := fun k => match k with
  | 0 => .int
  | 1 => .array (.int)
  | 2 => .array (.int)
  | 3 => .array (.int)
  | 4 => .array (.int)
  | 5 => .int
  | 6 => .array (.long)
  | 7 => .array (.int)
  | 8 => .array (.boolean)
  | 9 => .int
  | 10 => .long
  | 11 => .array (.int)
  | 12 => .array (.int)
  | 13 => .array (.int)
  | 14 => .int
  | 15 => .array (.int)
  | 16 => .array (.int)
  | 17 => .array (.int)
  | 18 => .array (.int)
  | 19 => .array (.int)
  | 20 => .array (.int)
  | 21 => .array (.int)
  | 22 => .array (.int)
  | 23 => .array (.int)
  | 24 => .array (.int)
  | 25 => .int
  | 26 => .int
  | 27 => .int
  | 28 => .int
  | 29 => .int
  | 30 => .int
  | 31 => .int
  | _ => .array (.int)
theorem tC9_ok : ∀ k, k < 33 → parseFieldDescriptor (FC9 k).2.2.1 = some (tC9 k) := by decide +kernel
theorem nC9 : ∀ a, a < 33 → ∀ b, b < 33 → a ≠ b → (FC9 a).2.1 ≠ (FC9 b).2.1 := by decide +kernel
abbrev dC9 : List Value := [.int 0, .null, .null, .null, .null, .int 0, .null, .null, .null, .int 0, .long 0, .null, .null, .null, .int 0, .null, .null, .null, .null, .null, .null, .null, .null, .null, .null, .int 0, .int 0, .int 0, .int 0, .int 0, .int 0, .int 0, .null]
theorem dC9_ok : ∀ j, j < 33 → defaultValue (tC9 j) = vp_V dC9 j := by
  intro j hj
  rcases (show j = 0 ∨ j = 1 ∨ j = 2 ∨ j = 3 ∨ j = 4 ∨ j = 5 ∨ j = 6 ∨ j = 7 ∨ j = 8 ∨ j = 9 ∨ j = 10 ∨ j = 11 ∨ j = 12 ∨ j = 13 ∨ j = 14 ∨ j = 15 ∨ j = 16 ∨ j = 17 ∨ j = 18 ∨ j = 19 ∨ j = 20 ∨ j = 21 ∨ j = 22 ∨ j = 23 ∨ j = 24 ∨ j = 25 ∨ j = 26 ∨ j = 27 ∨ j = 28 ∨ j = 29 ∨ j = 30 ∨ j = 31 ∨ j = 32 by omega) with rfl | rfl | rfl | rfl | rfl | rfl | rfl | rfl | rfl | rfl | rfl | rfl | rfl | rfl | rfl | rfl | rfl | rfl | rfl | rfl | rfl | rfl | rfl | rfl | rfl | rfl | rfl | rfl | rfl | rfl | rfl | rfl | rfl <;> rfl
theorem iC9 : ∀ w ∈ u_ws RC9 FC9 33, w ∈ zbig :=
  za (zin 786 (by decide +kernel) rfl) (za (zin 788 (by decide +kernel) rfl) (za (zin 790 (by decide +kernel) rfl) (za (zin 792 (by decide +kernel) rfl) (za (zin 794 (by decide +kernel) rfl) (za (zin 796 (by decide +kernel) rfl) (za (zin 798 (by decide +kernel) rfl) (za (zin 800 (by decide +kernel) rfl) (za (zin 802 (by decide +kernel) rfl) (za (zin 804 (by decide +kernel) rfl) (za (zin 806 (by decide +kernel) rfl) (za (zin 808 (by decide +kernel) rfl) (za (zin 810 (by decide +kernel) rfl) (za (zin 812 (by decide +kernel) rfl) (za (zin 814 (by decide +kernel) rfl) (za (zin 816 (by decide +kernel) rfl) (za (zin 818 (by decide +kernel) rfl) (za (zin 820 (by decide +kernel) rfl) (za (zin 822 (by decide +kernel) rfl) (za (zin 824 (by decide +kernel) rfl) (za (zin 826 (by decide +kernel) rfl) (za (zin 828 (by decide +kernel) rfl) (za (zin 830 (by decide +kernel) rfl) (za (zin 832 (by decide +kernel) rfl) (za (zin 834 (by decide +kernel) rfl) (za (zin 836 (by decide +kernel) rfl) (za (zin 838 (by decide +kernel) rfl) (za (zin 840 (by decide +kernel) rfl) (za (zin 842 (by decide +kernel) rfl) (za (zin 844 (by decide +kernel) rfl) (za (zin 846 (by decide +kernel) rfl) (za (zin 848 (by decide +kernel) rfl) (za (zin 850 (by decide +kernel) rfl) (zn)))))))))))))))))))))))))))))))))
abbrev zcls : List vw_C := [(RC0, FC0, 3), (RC1, FC1, 2), (RC2, FC2, 13), (RC3, FC3, 5), (RC4, FC4, 5), (RC5, FC5, 1), (RC6, FC6, 5), (RC7, FC7, 4), (RC8, FC8, 4), (RC9, FC9, 33)]
abbrev ztys (dA : Nat → ClassId) : List (ClassId × FieldType) := [(dA 0, .int), (dA 1, .long), (dA 2, .boolean), (dA 3, .object "VectorLanguage$Expression"), (dA 4, .object "VectorLanguage$Held")]
/-! the methods, by their numbers: name, bytes, locals, answer -/
def zmtl : List (MethodName × ByteArray × Nat × Option FieldType) := [
  (⟨"VectorLanguage", "<init>", "()V"⟩, prog_1_method_1_code, 1, none),
  (⟨"VectorLanguage$Program", "<init>", "()V"⟩, prog_10_method_1_code, 1, none),
  (⟨"VectorLanguage$Evaluator", "<init>", "(LVectorLanguage$Program;)V"⟩, prog_5_method_1_code, 2, none),
  (⟨"VectorLanguage$Environment", "<init>", "(LVectorLanguage$Function;I)V"⟩, prog_4_method_1_code, 3, none),
  (⟨"VectorLanguage$Places", "<init>", "()V"⟩, prog_9_method_1_code, 1, none),
  (⟨"VectorLanguage$Vector", "<init>", "([I)V"⟩, prog_12_method_1_code, 2, none),
  (⟨"VectorLanguage$Value", "<init>", "()V"⟩, prog_11_method_1_code, 1, none),
  (⟨"VectorLanguage$Held", "<init>", "()V"⟩, prog_8_method_1_code, 1, none),
  (⟨"VectorLanguage$Vector", "<init>", "(I)V"⟩, prog_12_method_2_code, 2, none),
  (⟨"VectorLanguage", "failure", "()I"⟩, prog_1_method_5_code, 1, (some .int)),
  (⟨"VectorLanguage", "reset", "()I"⟩, prog_1_method_8_code, 1, (some .int)),
  (⟨"VectorLanguage$Evaluator", "forget", "()I"⟩, prog_5_method_3_code, 2, (some .int)),
  (⟨"VectorLanguage$Environment", "clear", "()V"⟩, prog_4_method_4_code, 2, none),
  (⟨"VectorLanguage", "expression", "(IIII)I"⟩, prog_1_method_2_code, 5, (some .int)),
  (⟨"VectorLanguage$Program", "accepts", "(IIII)Z"⟩, prog_10_method_4_code, 5, (some .boolean)),
  (⟨"VectorLanguage", "isVariable", "(I)Z"⟩, prog_1_method_11_code, 1, (some .boolean)),
  (⟨"VectorLanguage$Program", "has", "(I)Z"⟩, prog_10_method_2_code, 2, (some .boolean)),
  (⟨"VectorLanguage$Program", "hasOrNone", "(I)Z"⟩, prog_10_method_5_code, 2, (some .boolean)),
  (⟨"VectorLanguage$Program", "acceptsParameters", "(II)Z"⟩, prog_10_method_7_code, 2, (some .boolean)),
  (⟨"VectorLanguage$Program", "acceptsArguments", "(II)Z"⟩, prog_10_method_6_code, 3, (some .boolean)),
  (⟨"VectorLanguage$Expression", "<init>", "(IIII)V"⟩, prog_6_method_1_code, 5, none),
  (⟨"VectorLanguage$Program", "add", "(LVectorLanguage$Expression;)I"⟩, prog_10_method_3_code, 2, (some .int)),
  (⟨"VectorLanguage", "run", "(I)I"⟩, prog_1_method_3_code, 3, (some .int)),
  (⟨"VectorLanguage$Evaluator", "perform", "(I)LVectorLanguage$Value;"⟩, prog_5_method_2_code, 3, (some (.object "VectorLanguage$Value"))),
  (⟨"VectorLanguage$Evaluator", "evaluate", "(ILVectorLanguage$Environment;I)LVectorLanguage$Value;"⟩, prog_5_method_4_code, 5, (some (.object "VectorLanguage$Value"))),
  (⟨"VectorLanguage$Evaluator", "fail", "(I)LVectorLanguage$Vector;"⟩, prog_5_method_5_code, 2, (some (.object "VectorLanguage$Vector"))),
  (⟨"VectorLanguage$Evaluator", "read", "(LVectorLanguage$Expression;LVectorLanguage$Environment;I)LVectorLanguage$Value;"⟩, prog_5_method_7_code, 5, (some (.object "VectorLanguage$Value"))),
  (⟨"VectorLanguage$Environment", "lookUp", "(I)LVectorLanguage$Held;"⟩, prog_4_method_2_code, 3, (some (.object "VectorLanguage$Held"))),
  (⟨"VectorLanguage$Evaluator", "valueOf", "(LVectorLanguage$Held;I)LVectorLanguage$Value;"⟩, prog_5_method_8_code, 4, (some (.object "VectorLanguage$Value"))),
  (⟨"VectorLanguage$Evaluator", "evaluateArgument", "(LVectorLanguage$Argument;I)LVectorLanguage$Value;"⟩, prog_5_method_9_code, 4, (some (.object "VectorLanguage$Value"))),
  (⟨"VectorLanguage$Evaluator", "assign", "(LVectorLanguage$Expression;LVectorLanguage$Environment;I)LVectorLanguage$Value;"⟩, prog_5_method_10_code, 6, (some (.object "VectorLanguage$Value"))),
  (⟨"VectorLanguage$Environment", "nearestAround", "(I)LVectorLanguage$Environment;"⟩, prog_4_method_3_code, 3, (some (.object "VectorLanguage$Environment"))),
  (⟨"VectorLanguage$Evaluator", "evaluateOfOne", "(LVectorLanguage$Expression;LVectorLanguage$Environment;I)LVectorLanguage$Value;"⟩, prog_5_method_12_code, 5, (some (.object "VectorLanguage$Value"))),
  (⟨"VectorLanguage$Evaluator", "elementsOf", "(ILVectorLanguage$Environment;I)[I"⟩, prog_5_method_11_code, 6, (some (.array .int))),
  (⟨"VectorLanguage$Evaluator", "negate", "([I)LVectorLanguage$Vector;"⟩, prog_5_method_13_code, 4, (some (.object "VectorLanguage$Vector"))),
  (⟨"VectorLanguage$Elements", "not", "(I)I"⟩, prog_3_method_5_code, 1, (some .int)),
  (⟨"VectorLanguage$Elements", "sum", "([I)I"⟩, prog_3_method_6_code, 7, (some .int)),
  (⟨"VectorLanguage$Elements", "inRange", "(J)I"⟩, prog_3_method_3_code, 2, (some .int)),
  (⟨"VectorLanguage$Elements", "first", "([I)I"⟩, prog_3_method_2_code, 1, (some .int)),
  (⟨"VectorLanguage$Evaluator", "raise", "(I)LVectorLanguage$Vector;"⟩, prog_5_method_14_code, 2, (some (.object "VectorLanguage$Vector"))),
  (⟨"VectorLanguage$Evaluator", "replace", "(LVectorLanguage$Expression;LVectorLanguage$Environment;I)LVectorLanguage$Value;"⟩, prog_5_method_21_code, 11, (some (.object "VectorLanguage$Value"))),
  (⟨"VectorLanguage$Evaluator", "store", "([I[ILVectorLanguage$Vector;LVectorLanguage$Environment;I)LVectorLanguage$Vector;"⟩, prog_5_method_22_code, 7, (some (.object "VectorLanguage$Vector"))),
  (⟨"VectorLanguage$Places", "find", "([IIZ)Z"⟩, prog_9_method_2_code, 4, (some .boolean)),
  (⟨"VectorLanguage$Places", "survey", "([I)V"⟩, prog_9_method_4_code, 6, none),
  (⟨"VectorLanguage$Places", "addThose", "([I)V"⟩, prog_9_method_5_code, 3, none),
  (⟨"VectorLanguage$Places", "addOthers", "([II)V"⟩, prog_9_method_6_code, 9, none),
  (⟨"VectorLanguage$Places", "reach", "()I"⟩, prog_9_method_3_code, 3, (some .int)),
  (⟨"java/lang/Math", "max", "(II)I"⟩, prog_21_method_65_code, 2, (some .int)),
  (⟨"VectorLanguage$Evaluator", "replaced", "([II[I)[I"⟩, prog_5_method_23_code, 6, (some (.array .int))),
  (⟨"java/util/Arrays", "copyOf", "([II)[I"⟩, prog_27_method_123_code, 3, (some (.array .int))),
  (⟨"java/lang/Math", "min", "(II)I"⟩, prog_21_method_69_code, 2, (some .int)),
  (⟨"VectorLanguage$Evaluator", "choose", "(LVectorLanguage$Expression;LVectorLanguage$Environment;I)LVectorLanguage$Value;"⟩, prog_5_method_25_code, 5, (some (.object "VectorLanguage$Value"))),
  (⟨"VectorLanguage$Evaluator", "condition", "(ILVectorLanguage$Environment;I)I"⟩, prog_5_method_24_code, 6, (some .int)),
  (⟨"VectorLanguage$Evaluator", "repeat", "(LVectorLanguage$Expression;LVectorLanguage$Environment;I)LVectorLanguage$Value;"⟩, prog_5_method_26_code, 6, (some (.object "VectorLanguage$Value"))),
  (⟨"VectorLanguage$Function", "<init>", "(IIILVectorLanguage$Environment;)V"⟩, prog_7_method_1_code, 5, none),
  (⟨"VectorLanguage$Evaluator", "call", "(LVectorLanguage$Expression;LVectorLanguage$Environment;I)LVectorLanguage$Value;"⟩, prog_5_method_27_code, 6, (some (.object "VectorLanguage$Value"))),
  (⟨"VectorLanguage$Evaluator", "enter", "(LVectorLanguage$Function;LVectorLanguage$Expression;LVectorLanguage$Environment;I)LVectorLanguage$Value;"⟩, prog_5_method_28_code, 8, (some (.object "VectorLanguage$Value"))),
  (⟨"VectorLanguage$Argument", "<init>", "(ILVectorLanguage$Environment;)V"⟩, prog_2_method_1_code, 3, none),
  (⟨"VectorLanguage$Evaluator", "takeEndValue", "(LVectorLanguage$Environment;)LVectorLanguage$Value;"⟩, prog_5_method_31_code, 3, (some (.object "VectorLanguage$Value"))),
  (⟨"VectorLanguage$Evaluator", "absent", "(LVectorLanguage$Expression;LVectorLanguage$Environment;)LVectorLanguage$Value;"⟩, prog_5_method_29_code, 3, (some (.object "VectorLanguage$Value"))),
  (⟨"VectorLanguage$Function", "hasParameter", "(I)Z"⟩, prog_7_method_3_code, 2, (some .boolean)),
  (⟨"VectorLanguage$Evaluator", "truth", "(Z)LVectorLanguage$Vector;"⟩, prog_5_method_6_code, 2, (some (.object "VectorLanguage$Vector"))),
  (⟨"VectorLanguage$Evaluator", "endCall", "(LVectorLanguage$Expression;LVectorLanguage$Environment;I)LVectorLanguage$Value;"⟩, prog_5_method_30_code, 5, (some (.object "VectorLanguage$Value"))),
  (⟨"VectorLanguage$Evaluator", "attempt", "(LVectorLanguage$Expression;LVectorLanguage$Environment;I)LVectorLanguage$Value;"⟩, prog_5_method_32_code, 5, (some (.object "VectorLanguage$Value"))),
  (⟨"VectorLanguage$Evaluator", "evaluateOfTwo", "(LVectorLanguage$Expression;LVectorLanguage$Environment;I)LVectorLanguage$Value;"⟩, prog_5_method_15_code, 8, (some (.object "VectorLanguage$Value"))),
  (⟨"VectorLanguage$Evaluator", "combine", "(LVectorLanguage$Expression;[I[I)LVectorLanguage$Vector;"⟩, prog_5_method_16_code, 4, (some (.object "VectorLanguage$Vector"))),
  (⟨"VectorLanguage$Evaluator", "join", "([I[I)LVectorLanguage$Vector;"⟩, prog_5_method_18_code, 4, (some (.object "VectorLanguage$Vector"))),
  (⟨"VectorLanguage$Evaluator", "range", "(II)LVectorLanguage$Vector;"⟩, prog_5_method_19_code, 6, (some (.object "VectorLanguage$Vector"))),
  (⟨"java/lang/Math", "abs", "(I)I"⟩, prog_21_method_59_code, 1, (some .int)),
  (⟨"VectorLanguage$Evaluator", "pick", "([I[I)LVectorLanguage$Vector;"⟩, prog_5_method_20_code, 6, (some (.object "VectorLanguage$Vector"))),
  (⟨"VectorLanguage$Elements", "same", "([I[I)Z"⟩, prog_3_method_7_code, 3, (some .boolean)),
  (⟨"VectorLanguage$Evaluator", "pairUp", "(LVectorLanguage$Expression;[I[I)LVectorLanguage$Vector;"⟩, prog_5_method_17_code, 6, (some (.object "VectorLanguage$Vector"))),
  (⟨"VectorLanguage$Elements", "pair", "(IIII)I"⟩, prog_3_method_4_code, 4, (some .int)),
  (⟨"VectorLanguage$Elements", "and", "(II)I"⟩, prog_3_method_8_code, 2, (some .int)),
  (⟨"VectorLanguage$Elements", "or", "(II)I"⟩, prog_3_method_9_code, 3, (some .int)),
  (⟨"VectorLanguage$Elements", "compare", "(III)I"⟩, prog_3_method_10_code, 3, (some .int)),
  (⟨"VectorLanguage$Elements", "calculate", "(III)J"⟩, prog_3_method_11_code, 3, (some .long)),
  (⟨"java/lang/Math", "floorDiv", "(II)I"⟩, prog_21_method_47_code, 3, (some .int)),
  (⟨"java/lang/Math", "floorMod", "(II)I"⟩, prog_21_method_50_code, 3, (some .int)),
  (⟨"VectorLanguage", "refuse", "(I)I"⟩, prog_1_method_10_code, 1, (some .int)),
  (⟨"VectorLanguage$Function", "size", "()I"⟩, prog_7_method_2_code, 1, (some .int)),
  (⟨"VectorLanguage$Vector", "size", "()I"⟩, prog_12_method_3_code, 1, (some .int)),
  (⟨"VectorLanguage", "element", "(I)I"⟩, prog_1_method_4_code, 4, (some .int)),
  (⟨"VectorLanguage$Vector", "hasPlace", "(I)Z"⟩, prog_12_method_4_code, 2, (some .boolean)),
  (⟨"VectorLanguage", "variable", "(I)I"⟩, prog_1_method_6_code, 4, (some .int)),
  (⟨"VectorLanguage", "value", "(II)I"⟩, prog_1_method_7_code, 5, (some .int)),
  (⟨"VectorLanguage", "count", "(I)I"⟩, prog_1_method_9_code, 2, (some .int)),
  (⟨"VectorLanguageModel", "<init>", "()V"⟩, prog_14_method_1_code, 1, none),
  (⟨"VectorLanguageModel", "thrown", "()I"⟩, prog_14_method_2_code, 1, (some .int)),
  (⟨"VectorLanguageModel", "expression", "(IIII)I"⟩, prog_14_method_7_code, 5, (some .int)),
  (⟨"VectorLanguageModel", "fits", "(IIII)Z"⟩, prog_14_method_6_code, 5, (some .boolean)),
  (⟨"VectorLanguageModel", "between", "(III)Z"⟩, prog_14_method_4_code, 3, (some .boolean)),
  (⟨"VectorLanguageModel", "made", "(I)Z"⟩, prog_14_method_5_code, 2, (some .boolean)),
  (⟨"VectorLanguageModel", "raise", "(I)I"⟩, prog_14_method_3_code, 2, (some .int)),
  (⟨"VectorLanguageModel", "run", "(I)I"⟩, prog_14_method_53_code, 3, (some .int)),
  (⟨"VectorLanguageModel", "begin", "(II)V"⟩, prog_14_method_30_code, 3, none),
  (⟨"VectorLanguageModel", "pile", "(III)V"⟩, prog_14_method_31_code, 4, none),
  (⟨"VectorLanguageModel", "advance", "()V"⟩, prog_14_method_51_code, 5, none),
  (⟨"VectorLanguageModel", "parts", "(I)I"⟩, prog_14_method_49_code, 1, (some .int)),
  (⟨"VectorLanguageModel", "part", "(II)I"⟩, prog_14_method_50_code, 4, (some .int)),
  (⟨"VectorLanguageModel", "one", "(I)I"⟩, prog_14_method_13_code, 3, (some .int)),
  (⟨"VectorLanguageModel", "fresh", "(I)I"⟩, prog_14_method_10_code, 3, (some .int)),
  (⟨"VectorLanguageModel", "sweep", "()V"⟩, prog_14_method_9_code, 2, none),
  (⟨"VectorLanguageModel", "mark", "(I)V"⟩, prog_14_method_8_code, 2, none),
  (⟨"VectorLanguageModel", "set", "(III)V"⟩, prog_14_method_12_code, 7, none),
  (⟨"VectorLanguageModel", "over", "(I)V"⟩, prog_14_method_33_code, 3, none),
  (⟨"VectorLanguageModel", "look", "(II)V"⟩, prog_14_method_47_code, 5, none),
  (⟨"VectorLanguageModel", "place", "(II)I"⟩, prog_14_method_34_code, 4, (some .int)),
  (⟨"VectorLanguageModel", "wanted", "(I)I"⟩, prog_14_method_35_code, 2, (some .int)),
  (⟨"VectorLanguageModel", "assign", "(II)V"⟩, prog_14_method_43_code, 5, none),
  (⟨"VectorLanguageModel", "give", "(III)V"⟩, prog_14_method_36_code, 4, none),
  (⟨"VectorLanguageModel", "replace", "(II)V"⟩, prog_14_method_44_code, 5, none),
  (⟨"VectorLanguageModel", "replaced", "(III)I"⟩, prog_14_method_28_code, 8, (some .int)),
  (⟨"VectorLanguageModel", "indexes", "(II)I"⟩, prog_14_method_26_code, 9, (some .int)),
  (⟨"VectorLanguageModel", "at", "(II)I"⟩, prog_14_method_11_code, 3, (some .int)),
  (⟨"VectorLanguageModel", "leaves", "(II)Z"⟩, prog_14_method_25_code, 4, (some .boolean)),
  (⟨"VectorLanguageModel", "condition", "(II)V"⟩, prog_14_method_48_code, 6, none),
  (⟨"VectorLanguageModel", "holds", "(I)Z"⟩, prog_14_method_41_code, 2, (some .boolean)),
  (⟨"VectorLanguageModel", "function", "(II)V"⟩, prog_14_method_37_code, 4, none),
  (⟨"VectorLanguageModel", "call", "(I)V"⟩, prog_14_method_39_code, 7, none),
  (⟨"VectorLanguageModel", "argue", "(IIII)V"⟩, prog_14_method_38_code, 5, none),
  (⟨"VectorLanguageModel", "missing", "(II)V"⟩, prog_14_method_42_code, 5, none),
  (⟨"VectorLanguageModel", "leave", "(II)V"⟩, prog_14_method_40_code, 5, none),
  (⟨"VectorLanguageModel", "drop", "()V"⟩, prog_14_method_32_code, 1, none),
  (⟨"VectorLanguageModel", "complain", "(I)V"⟩, prog_14_method_46_code, 3, none),
  (⟨"VectorLanguageModel", "worked", "(II)I"⟩, prog_14_method_45_code, 5, (some .int)),
  (⟨"VectorLanguageModel", "same", "(II)Z"⟩, prog_14_method_29_code, 4, (some .boolean)),
  (⟨"VectorLanguageModel", "failed", "(I)I"⟩, prog_14_method_21_code, 2, (some .int)),
  (⟨"VectorLanguageModel", "pairwise", "(IIII)I"⟩, prog_14_method_19_code, 10, (some .int)),
  (⟨"VectorLanguageModel", "arithmetic", "(III)I"⟩, prog_14_method_16_code, 5, (some .int)),
  (⟨"VectorLanguageModel", "limited", "(J)I"⟩, prog_14_method_14_code, 2, (some .int)),
  (⟨"VectorLanguageModel", "down", "(JJ)J"⟩, prog_14_method_15_code, 4, (some .long)),
  (⟨"VectorLanguageModel", "compare", "(III)I"⟩, prog_14_method_17_code, 3, (some .int)),
  (⟨"VectorLanguageModel", "logic", "(III)I"⟩, prog_14_method_18_code, 5, (some .int)),
  (⟨"VectorLanguageModel", "not", "(I)I"⟩, prog_14_method_20_code, 4, (some .int)),
  (⟨"VectorLanguageModel", "joined", "(II)I"⟩, prog_14_method_22_code, 6, (some .int)),
  (⟨"VectorLanguageModel", "range", "(II)I"⟩, prog_14_method_23_code, 8, (some .int)),
  (⟨"VectorLanguageModel", "picked", "(II)I"⟩, prog_14_method_27_code, 6, (some .int)),
  (⟨"VectorLanguageModel", "sum", "(I)I"⟩, prog_14_method_24_code, 5, (some .int)),
  (⟨"VectorLanguageModel", "unwind", "()V"⟩, prog_14_method_52_code, 4, none),
  (⟨"VectorLanguageModel", "element", "(I)I"⟩, prog_14_method_54_code, 2, (some .int)),
  (⟨"VectorLanguageModel", "failure", "()I"⟩, prog_14_method_55_code, 1, (some .int)),
  (⟨"VectorLanguageModel", "variable", "(I)I"⟩, prog_14_method_56_code, 2, (some .int)),
  (⟨"VectorLanguageModel", "value", "(II)I"⟩, prog_14_method_57_code, 3, (some .int)),
  (⟨"VectorLanguageModel", "reset", "()I"⟩, prog_14_method_58_code, 3, (some .int)),
  (⟨"VectorLanguageModel", "count", "(I)I"⟩, prog_14_method_59_code, 2, (some .int))]
def zmt : zMt := fun μ => (zmtl[μ]?).getD (⟨"", "", ""⟩, ⟨#[]⟩, 0, none)
def zOK (l : Launch) (D : va_G) (dA : Nat → ClassId) (b0 μ pc : Nat) (tr : zP → zP) : Prop := zMono tr ∧ zS l zmt zbig znst D zcls (ztys dA) b0 μ pc tr
theorem zap {l : Launch} {D : va_G} {dA : Nat → ClassId} {b0 μ pc : Nat} {tr : zP → zP} {L : List (Nat × (zP → zP))} (h1 : zMono tr) (h2 : zS l zmt zbig znst D zcls (ztys dA) b0 μ pc tr) (t : ∀ q ∈ L, zOK l D dA b0 μ q.1 q.2) : ∀ q ∈ (pc, tr) :: L, zOK l D dA b0 μ q.1 q.2 := List.forall_mem_cons.mpr ⟨⟨h1, h2⟩, t⟩
