def zT : List Cond := lw_tbl.filter goodWord
theorem zw_mk {w : Cond} (i : Nat) (h : lw_tbl[i]? = some w) (g : goodWord w = true) : w ∈ zT := List.mem_filter.mpr ⟨List.mem_of_getElem? h, g⟩
theorem zin_mk {ws : List Cond} (h : ws.all (fun w => decide (w ∈ lw_tbl) && goodWord w) = true) : ∀ w ∈ ws, w ∈ zT := fun w hw => by
  have h1 := List.all_eq_true.mp h w hw
  rw [Bool.and_eq_true] at h1
  exact List.mem_filter.mpr ⟨of_decide_eq_true h1.1, h1.2⟩
theorem zG_in {c : Cond} (h : c ∈ zT) : GoodIn zT (c :: zT) := fun w hw => by
  have hz : w ∈ zT := by
    rcases List.mem_cons.mp hw with e | e
    · rw [e]; exact h
    · exact e
  exact ⟨hz, good_of_word (List.mem_filter.mp hz).2⟩
def T_ND : u_T := fun k => match k with
  | 0 => ("NumberDress", "typed", "[C", true)
  | 1 => ("NumberDress", "typedLength", "I", false)
  | 2 => ("NumberDress", "current", "LNumberDress$Code;", false)
  | 3 => ("NumberDress", "reader", "LNumberDress$Reader;", true)
  | 4 => ("NumberDress", "value", "LNumberDress$Value;", true)
  | 5 => ("NumberDress", "dresser", "LNumberDress$Dresser;", true)
  | _ => ("NumberDress", "shown", "LNumberDress$Look;", true)
def ty_ND : Nat → FieldType := fun k => match k with
  | 0 => .array .char
  | 1 => .int
  | 2 => .object "NumberDress$Code"
  | 3 => .object "NumberDress$Reader"
  | 4 => .object "NumberDress$Value"
  | 5 => .object "NumberDress$Dresser"
  | _ => .object "NumberDress$Look"
theorem nm_ND : ∀ a, a < 7 → ∀ b, b < 7 → a ≠ b → (T_ND a).2.1 ≠ (T_ND b).2.1 := by decide +kernel
theorem tyok_ND : ∀ k, k < 7 → parseFieldDescriptor (T_ND k).2.2.1 = some (ty_ND k) := by decide +kernel
theorem zin_ND : ∀ w ∈ u_ws "NumberDress" T_ND 7, w ∈ zT := zin_mk (by decide +kernel)
def T_Code : u_T := fun k => match k with
  | 0 => ("NumberDress$Code", "sections", "[LNumberDress$Section;", true)
  | 1 => ("NumberDress$Code", "count", "I", false)
  | 2 => ("NumberDress$Code", "kinds", "[I", true)
  | 3 => ("NumberDress$Code", "marks", "[I", true)
  | _ => ("NumberDress$Code", "items", "I", false)
def ty_Code : Nat → FieldType := fun k => match k with
  | 0 => .array (.object "NumberDress$Section")
  | 1 => .int
  | 2 => .array .int
  | 3 => .array .int
  | _ => .int
theorem nm_Code : ∀ a, a < 5 → ∀ b, b < 5 → a ≠ b → (T_Code a).2.1 ≠ (T_Code b).2.1 := by decide +kernel
theorem tyok_Code : ∀ k, k < 5 → parseFieldDescriptor (T_Code k).2.2.1 = some (ty_Code k) := by decide +kernel
theorem zin_Code : ∀ w ∈ u_ws "NumberDress$Code" T_Code 5, w ∈ zT := zin_mk (by decide +kernel)
def T_DateDresser : u_T := fun k => match k with
  | 0 => ("NumberDress$DateDresser", "split", "LNumberDress$Split;", true)
  | 1 => ("NumberDress$DateDresser", "days", "J", false)
  | 2 => ("NumberDress$DateDresser", "seconds", "J", false)
  | 3 => ("NumberDress$DateDresser", "thousandths", "J", false)
  | 4 => ("NumberDress$DateDresser", "year", "I", false)
  | 5 => ("NumberDress$DateDresser", "month", "I", false)
  | _ => ("NumberDress$DateDresser", "day", "I", false)
def ty_DateDresser : Nat → FieldType := fun k => match k with
  | 0 => .object "NumberDress$Split"
  | 1 => .long
  | 2 => .long
  | 3 => .long
  | 4 => .int
  | 5 => .int
  | _ => .int
theorem nm_DateDresser : ∀ a, a < 7 → ∀ b, b < 7 → a ≠ b → (T_DateDresser a).2.1 ≠ (T_DateDresser b).2.1 := by decide +kernel
theorem tyok_DateDresser : ∀ k, k < 7 → parseFieldDescriptor (T_DateDresser k).2.2.1 = some (ty_DateDresser k) := by decide +kernel
theorem zin_DateDresser : ∀ w ∈ u_ws "NumberDress$DateDresser" T_DateDresser 7, w ∈ zT := zin_mk (by decide +kernel)
def T_Digits : u_T := fun k => match k with
  | 0 => ("NumberDress$Digits", "head", "J", false)
  | 1 => ("NumberDress$Digits", "zeros", "I", false)
  | 2 => ("NumberDress$Digits", "count", "I", false)
  | _ => ("NumberDress$Digits", "decimals", "I", false)
def ty_Digits : Nat → FieldType := fun k => match k with
  | 0 => .long
  | 1 => .int
  | 2 => .int
  | _ => .int
theorem nm_Digits : ∀ a, a < 4 → ∀ b, b < 4 → a ≠ b → (T_Digits a).2.1 ≠ (T_Digits b).2.1 := by decide +kernel
theorem tyok_Digits : ∀ k, k < 4 → parseFieldDescriptor (T_Digits k).2.2.1 = some (ty_Digits k) := by decide +kernel
theorem zin_Digits : ∀ w ∈ u_ws "NumberDress$Digits" T_Digits 4, w ∈ zT := zin_mk (by decide +kernel)
def T_Dresser : u_T := fun k => match k with
  | 0 => ("NumberDress$Dresser", "numbers", "LNumberDress$NumberDresser;", true)
  | 1 => ("NumberDress$Dresser", "fractions", "LNumberDress$FractionDresser;", true)
  | _ => ("NumberDress$Dresser", "dates", "LNumberDress$DateDresser;", true)
def ty_Dresser : Nat → FieldType := fun k => match k with
  | 0 => .object "NumberDress$NumberDresser"
  | 1 => .object "NumberDress$FractionDresser"
  | _ => .object "NumberDress$DateDresser"
theorem nm_Dresser : ∀ a, a < 3 → ∀ b, b < 3 → a ≠ b → (T_Dresser a).2.1 ≠ (T_Dresser b).2.1 := by decide +kernel
theorem tyok_Dresser : ∀ k, k < 3 → parseFieldDescriptor (T_Dresser k).2.2.1 = some (ty_Dresser k) := by decide +kernel
theorem zin_Dresser : ∀ w ∈ u_ws "NumberDress$Dresser" T_Dresser 3, w ∈ zT := zin_mk (by decide +kernel)
def T_FractionDresser : u_T := fun k => match k with
  | 0 => ("NumberDress$FractionDresser", "split", "LNumberDress$Split;", true)
  | 1 => ("NumberDress$FractionDresser", "top", "LNumberDress$Digits;", true)
  | 2 => ("NumberDress$FractionDresser", "over", "J", false)
  | 3 => ("NumberDress$FractionDresser", "under", "J", false)
  | _ => ("NumberDress$FractionDresser", "gap", "J", false)
def ty_FractionDresser : Nat → FieldType := fun k => match k with
  | 0 => .object "NumberDress$Split"
  | 1 => .object "NumberDress$Digits"
  | 2 => .long
  | 3 => .long
  | _ => .long
theorem nm_FractionDresser : ∀ a, a < 5 → ∀ b, b < 5 → a ≠ b → (T_FractionDresser a).2.1 ≠ (T_FractionDresser b).2.1 := by decide +kernel
theorem tyok_FractionDresser : ∀ k, k < 5 → parseFieldDescriptor (T_FractionDresser k).2.2.1 = some (ty_FractionDresser k) := by decide +kernel
theorem zin_FractionDresser : ∀ w ∈ u_ws "NumberDress$FractionDresser" T_FractionDresser 5, w ∈ zT := zin_mk (by decide +kernel)
def T_Look : u_T := fun k => match k with
  | 0 => ("NumberDress$Look", "row", "[C", false)
  | 1 => ("NumberDress$Look", "length", "I", false)
  | _ => ("NumberDress$Look", "done", "Z", false)
def ty_Look : Nat → FieldType := fun k => match k with
  | 0 => .array .char
  | 1 => .int
  | _ => .boolean
theorem nm_Look : ∀ a, a < 3 → ∀ b, b < 3 → a ≠ b → (T_Look a).2.1 ≠ (T_Look b).2.1 := by decide +kernel
theorem tyok_Look : ∀ k, k < 3 → parseFieldDescriptor (T_Look k).2.2.1 = some (ty_Look k) := by decide +kernel
theorem zin_Look : ∀ w ∈ u_ws "NumberDress$Look" T_Look 3, w ∈ zT := zin_mk (by decide +kernel)
def T_NumberDresser : u_T := fun k => match k with
  | 0 => ("NumberDress$NumberDresser", "digits", "LNumberDress$Digits;", true)
  | 1 => ("NumberDress$NumberDresser", "powerDigits", "LNumberDress$Digits;", true)
  | _ => ("NumberDress$NumberDresser", "power", "I", false)
def ty_NumberDresser : Nat → FieldType := fun k => match k with
  | 0 => .object "NumberDress$Digits"
  | 1 => .object "NumberDress$Digits"
  | _ => .int
theorem nm_NumberDresser : ∀ a, a < 3 → ∀ b, b < 3 → a ≠ b → (T_NumberDresser a).2.1 ≠ (T_NumberDresser b).2.1 := by decide +kernel
theorem tyok_NumberDresser : ∀ k, k < 3 → parseFieldDescriptor (T_NumberDresser k).2.2.1 = some (ty_NumberDresser k) := by decide +kernel
theorem zin_NumberDresser : ∀ w ∈ u_ws "NumberDress$NumberDresser" T_NumberDresser 3, w ∈ zT := zin_mk (by decide +kernel)
def T_Reader : u_T := fun k => match k with
  | 0 => ("NumberDress$Reader", "signs", "[C", false)
  | 1 => ("NumberDress$Reader", "length", "I", false)
  | 2 => ("NumberDress$Reader", "code", "LNumberDress$Code;", false)
  | 3 => ("NumberDress$Reader", "section", "LNumberDress$Section;", false)
  | _ => ("NumberDress$Reader", "kindPlace", "I", false)
def ty_Reader : Nat → FieldType := fun k => match k with
  | 0 => .array .char
  | 1 => .int
  | 2 => .object "NumberDress$Code"
  | 3 => .object "NumberDress$Section"
  | _ => .int
theorem nm_Reader : ∀ a, a < 5 → ∀ b, b < 5 → a ≠ b → (T_Reader a).2.1 ≠ (T_Reader b).2.1 := by decide +kernel
theorem tyok_Reader : ∀ k, k < 5 → parseFieldDescriptor (T_Reader k).2.2.1 = some (ty_Reader k) := by decide +kernel
theorem zin_Reader : ∀ w ∈ u_ws "NumberDress$Reader" T_Reader 5, w ∈ zT := zin_mk (by decide +kernel)
def T_Section : u_T := fun k => match k with
  | 0 => ("NumberDress$Section", "kind", "I", false)
  | 1 => ("NumberDress$Section", "first", "I", false)
  | 2 => ("NumberDress$Section", "end", "I", false)
  | 3 => ("NumberDress$Section", "wholes", "I", false)
  | 4 => ("NumberDress$Section", "decimals", "I", false)
  | 5 => ("NumberDress$Section", "point", "Z", false)
  | 6 => ("NumberDress$Section", "thousands", "Z", false)
  | 7 => ("NumberDress$Section", "thousandths", "I", false)
  | 8 => ("NumberDress$Section", "percents", "I", false)
  | 9 => ("NumberDress$Section", "powers", "I", false)
  | 10 => ("NumberDress$Section", "numerators", "I", false)
  | 11 => ("NumberDress$Section", "denominators", "I", false)
  | 12 => ("NumberDress$Section", "given", "I", false)
  | 13 => ("NumberDress$Section", "parts", "I", false)
  | _ => ("NumberDress$Section", "halfDays", "Z", false)
def ty_Section : Nat → FieldType := fun k => match k with
  | 0 => .int
  | 1 => .int
  | 2 => .int
  | 3 => .int
  | 4 => .int
  | 5 => .boolean
  | 6 => .boolean
  | 7 => .int
  | 8 => .int
  | 9 => .int
  | 10 => .int
  | 11 => .int
  | 12 => .int
  | 13 => .int
  | _ => .boolean
theorem nm_Section : ∀ a, a < 15 → ∀ b, b < 15 → a ≠ b → (T_Section a).2.1 ≠ (T_Section b).2.1 := by decide +kernel
theorem tyok_Section : ∀ k, k < 15 → parseFieldDescriptor (T_Section k).2.2.1 = some (ty_Section k) := by decide +kernel
theorem zin_Section : ∀ w ∈ u_ws "NumberDress$Section" T_Section 15, w ∈ zT := zin_mk (by decide +kernel)
def T_Split : u_T := fun k => match k with
  | 0 => ("NumberDress$Split", "whole", "LNumberDress$Digits;", true)
  | _ => ("NumberDress$Split", "rest", "J", false)
def ty_Split : Nat → FieldType := fun k => match k with
  | 0 => .object "NumberDress$Digits"
  | _ => .long
theorem nm_Split : ∀ a, a < 2 → ∀ b, b < 2 → a ≠ b → (T_Split a).2.1 ≠ (T_Split b).2.1 := by decide +kernel
theorem tyok_Split : ∀ k, k < 2 → parseFieldDescriptor (T_Split k).2.2.1 = some (ty_Split k) := by decide +kernel
theorem zin_Split : ∀ w ∈ u_ws "NumberDress$Split" T_Split 2, w ∈ zT := zin_mk (by decide +kernel)
def T_Value : u_T := fun k => match k with
  | 0 => ("NumberDress$Value", "isText", "Z", false)
  | 1 => ("NumberDress$Value", "negative", "Z", false)
  | 2 => ("NumberDress$Value", "digits", "J", false)
  | 3 => ("NumberDress$Value", "scale", "I", false)
  | 4 => ("NumberDress$Value", "words", "[C", true)
  | _ => ("NumberDress$Value", "wordsLength", "I", false)
def ty_Value : Nat → FieldType := fun k => match k with
  | 0 => .boolean
  | 1 => .boolean
  | 2 => .long
  | 3 => .int
  | 4 => .array .char
  | _ => .int
theorem nm_Value : ∀ a, a < 6 → ∀ b, b < 6 → a ≠ b → (T_Value a).2.1 ≠ (T_Value b).2.1 := by decide +kernel
theorem tyok_Value : ∀ k, k < 6 → parseFieldDescriptor (T_Value k).2.2.1 = some (ty_Value k) := by decide +kernel
theorem zin_Value : ∀ w ∈ u_ws "NumberDress$Value" T_Value 6, w ∈ zT := zin_mk (by decide +kernel)
def T_M : u_T := fun k => match k with
  | 0 => ("NumberDressModel", "code", "I", false)
  | 1 => ("NumberDressModel", "length", "I", false)
  | 2 => ("NumberDressModel", "typed", "[I", true)
  | 3 => ("NumberDressModel", "end", "I", false)
  | 4 => ("NumberDressModel", "sections", "[I", true)
  | 5 => ("NumberDressModel", "sectionKind", "[I", true)
  | 6 => ("NumberDressModel", "sectionItem", "[I", true)
  | 7 => ("NumberDressModel", "sectionEnd", "[I", true)
  | 8 => ("NumberDressModel", "kind", "[I", true)
  | 9 => ("NumberDressModel", "first", "[I", true)
  | 10 => ("NumberDressModel", "second", "[I", true)
  | 11 => ("NumberDressModel", "packed", "[I", true)
  | 12 => ("NumberDressModel", "items", "I", false)
  | 13 => ("NumberDressModel", "wrong", "I", false)
  | 14 => ("NumberDressModel", "at", "I", false)
  | 15 => ("NumberDressModel", "point", "Z", false)
  | 16 => ("NumberDressModel", "parted", "Z", false)
  | 17 => ("NumberDressModel", "behind", "Z", false)
  | 18 => ("NumberDressModel", "commas", "Z", false)
  | 19 => ("NumberDressModel", "percents", "Z", false)
  | 20 => ("NumberDressModel", "isText", "Z", false)
  | 21 => ("NumberDressModel", "textLength", "I", false)
  | 22 => ("NumberDressModel", "text", "[I", true)
  | 23 => ("NumberDressModel", "negative", "Z", false)
  | 24 => ("NumberDressModel", "count", "I", false)
  | 25 => ("NumberDressModel", "place", "I", false)
  | 26 => ("NumberDressModel", "digits", "[I", true)
  | 27 => ("NumberDressModel", "many", "I", false)
  | 28 => ("NumberDressModel", "dot", "I", false)
  | 29 => ("NumberDressModel", "row", "[I", true)
  | 30 => ("NumberDressModel", "wholes", "I", false)
  | 31 => ("NumberDressModel", "whole", "[I", true)
  | 32 => ("NumberDressModel", "rest", "[I", true)
  | 33 => ("NumberDressModel", "size", "I", false)
  | 34 => ("NumberDressModel", "look", "[I", true)
  | 35 => ("NumberDressModel", "day", "I", false)
  | 36 => ("NumberDressModel", "ticks", "J", false)
  | 37 => ("NumberDressModel", "parts", "I", false)
  | 38 => ("NumberDressModel", "year", "I", false)
  | 39 => ("NumberDressModel", "month", "I", false)
  | _ => ("NumberDressModel", "dayOfMonth", "I", false)
def ty_M : Nat → FieldType := fun k => match k with
  | 0 => .int
  | 1 => .int
  | 2 => .array .int
  | 3 => .int
  | 4 => .array .int
  | 5 => .array .int
  | 6 => .array .int
  | 7 => .array .int
  | 8 => .array .int
  | 9 => .array .int
  | 10 => .array .int
  | 11 => .array .int
  | 12 => .int
  | 13 => .int
  | 14 => .int
  | 15 => .boolean
  | 16 => .boolean
  | 17 => .boolean
  | 18 => .boolean
  | 19 => .boolean
  | 20 => .boolean
  | 21 => .int
  | 22 => .array .int
  | 23 => .boolean
  | 24 => .int
  | 25 => .int
  | 26 => .array .int
  | 27 => .int
  | 28 => .int
  | 29 => .array .int
  | 30 => .int
  | 31 => .array .int
  | 32 => .array .int
  | 33 => .int
  | 34 => .array .int
  | 35 => .int
  | 36 => .long
  | 37 => .int
  | 38 => .int
  | 39 => .int
  | _ => .int
theorem nm_M : ∀ a, a < 41 → ∀ b, b < 41 → a ≠ b → (T_M a).2.1 ≠ (T_M b).2.1 := by decide +kernel
theorem tyok_M : ∀ k, k < 41 → parseFieldDescriptor (T_M k).2.2.1 = some (ty_M k) := by decide +kernel
theorem zin_M : ∀ w ∈ u_ws "NumberDressModel" T_M 41, w ∈ zT := zin_mk (by decide +kernel)
abbrev zCl : List vw_C := [("NumberDress", T_ND, 7), ("NumberDress$Code", T_Code, 5), ("NumberDress$DateDresser", T_DateDresser, 7), ("NumberDress$Digits", T_Digits, 4), ("NumberDress$Dresser", T_Dresser, 3), ("NumberDress$FractionDresser", T_FractionDresser, 5), ("NumberDress$Look", T_Look, 3), ("NumberDress$NumberDresser", T_NumberDresser, 3), ("NumberDress$Reader", T_Reader, 5), ("NumberDress$Section", T_Section, 15), ("NumberDress$Split", T_Split, 2), ("NumberDress$Value", T_Value, 6), ("NumberDressModel", T_M, 41)]
def zNs : List Cond := [(Jvm.Cond.methodLinkNest "NumberDress$Code" (28 : Nat) ({ cls := "NumberDress$Section", name := "<init>", desc := "()V" } : Jvm.MethodName) "NumberDress"), (Jvm.Cond.methodLinkNest "NumberDress" (22 : Nat) ({ cls := "NumberDress$Reader", name := "<init>", desc := "()V" } : Jvm.MethodName) "NumberDress"), (Jvm.Cond.methodLinkNest "NumberDress$Reader" (24 : Nat) ({ cls := "NumberDress$Section", name := "<init>", desc := "()V" } : Jvm.MethodName) "NumberDress"), (Jvm.Cond.methodLinkNest "NumberDress" (29 : Nat) ({ cls := "NumberDress$Value", name := "<init>", desc := "()V" } : Jvm.MethodName) "NumberDress"), (Jvm.Cond.methodLinkNest "NumberDress" (36 : Nat) ({ cls := "NumberDress$Dresser", name := "<init>", desc := "()V" } : Jvm.MethodName) "NumberDress"), (Jvm.Cond.methodLinkNest "NumberDress$Dresser" (11 : Nat) ({ cls := "NumberDress$NumberDresser", name := "<init>", desc := "()V" } : Jvm.MethodName) "NumberDress"), (Jvm.Cond.methodLinkNest "NumberDress$NumberDresser" (11 : Nat) ({ cls := "NumberDress$Digits", name := "<init>", desc := "()V" } : Jvm.MethodName) "NumberDress"), (Jvm.Cond.methodLinkNest "NumberDress$Dresser" (20 : Nat) ({ cls := "NumberDress$FractionDresser", name := "<init>", desc := "()V" } : Jvm.MethodName) "NumberDress"), (Jvm.Cond.methodLinkNest "NumberDress$FractionDresser" (11 : Nat) ({ cls := "NumberDress$Split", name := "<init>", desc := "()V" } : Jvm.MethodName) "NumberDress"), (Jvm.Cond.methodLinkNest "NumberDress$Split" (9 : Nat) ({ cls := "NumberDress$Digits", name := "<init>", desc := "()V" } : Jvm.MethodName) "NumberDress"), (Jvm.Cond.methodLinkNest "NumberDress$FractionDresser" (20 : Nat) ({ cls := "NumberDress$Digits", name := "<init>", desc := "()V" } : Jvm.MethodName) "NumberDress"), (Jvm.Cond.methodLinkNest "NumberDress$Dresser" (27 : Nat) ({ cls := "NumberDress$DateDresser", name := "<init>", desc := "()V" } : Jvm.MethodName) "NumberDress"), (Jvm.Cond.methodLinkNest "NumberDress$DateDresser" (11 : Nat) ({ cls := "NumberDress$Split", name := "<init>", desc := "()V" } : Jvm.MethodName) "NumberDress"), (Jvm.Cond.methodLinkNest "NumberDress" (43 : Nat) ({ cls := "NumberDress$Look", name := "<init>", desc := "()V" } : Jvm.MethodName) "NumberDress"), (Jvm.Cond.fieldLinkNest "NumberDress$Dresser" (117 : Nat) "NumberDress" "TENS" "[J" "NumberDress"), (Jvm.Cond.methodLinkNest "NumberDress$Dresser" (123 : Nat) ({ cls := "NumberDress", name := "digitsOf", desc := "(J)I" } : Jvm.MethodName) "NumberDress"), (Jvm.Cond.fieldLinkNest "NumberDress$Look" (38 : Nat) "NumberDress" "TENS" "[J" "NumberDress"), (Jvm.Cond.methodLinkNest "NumberDress$Look" (42 : Nat) ({ cls := "NumberDress", name := "tenTo", desc := "(I)J" } : Jvm.MethodName) "NumberDress"), (Jvm.Cond.methodLinkNest "NumberDress$Dresser" (148 : Nat) ({ cls := "NumberDress", name := "tenTo", desc := "(I)J" } : Jvm.MethodName) "NumberDress"), (Jvm.Cond.methodLinkNest "NumberDress$NumberDresser" (75 : Nat) ({ cls := "NumberDress", name := "digitsOf", desc := "(J)I" } : Jvm.MethodName) "NumberDress"), (Jvm.Cond.methodLinkNest "NumberDress$Digits" (29 : Nat) ({ cls := "NumberDress", name := "cutRounded", desc := "(JI)J" } : Jvm.MethodName) "NumberDress"), (Jvm.Cond.methodLinkNest "NumberDress$Digits" (17 : Nat) ({ cls := "NumberDress", name := "digitsOf", desc := "(J)I" } : Jvm.MethodName) "NumberDress"), (Jvm.Cond.fieldLinkNest "NumberDress$Digits" (43 : Nat) "NumberDress" "TENS" "[J" "NumberDress"), (Jvm.Cond.methodLinkNest "NumberDress$Digits" (47 : Nat) ({ cls := "NumberDress", name := "tenTo", desc := "(I)J" } : Jvm.MethodName) "NumberDress"), (Jvm.Cond.methodLinkNest "NumberDress$Split" (33 : Nat) ({ cls := "NumberDress", name := "tenTo", desc := "(I)J" } : Jvm.MethodName) "NumberDress"), (Jvm.Cond.methodLinkNest "NumberDress$Split" (39 : Nat) ({ cls := "NumberDress", name := "cutRounded", desc := "(JI)J" } : Jvm.MethodName) "NumberDress"), (Jvm.Cond.methodLinkNest "NumberDress$FractionDresser" (86 : Nat) ({ cls := "NumberDress", name := "tenTo", desc := "(I)J" } : Jvm.MethodName) "NumberDress"), (Jvm.Cond.methodLinkNest "NumberDress$FractionDresser" (127 : Nat) ({ cls := "NumberDress", name := "digitsOf", desc := "(J)I" } : Jvm.MethodName) "NumberDress"), (Jvm.Cond.methodLinkNest "NumberDress$DateDresser" (83 : Nat) ({ cls := "NumberDress", name := "tenTo", desc := "(I)J" } : Jvm.MethodName) "NumberDress")]
theorem zn_152 : (Jvm.Cond.methodLinkNest "NumberDress$Code" (28 : Nat) ({ cls := "NumberDress$Section", name := "<init>", desc := "()V" } : Jvm.MethodName) "NumberDress") ∈ zNs := List.mem_of_getElem? (i := 0) rfl
theorem zn_263 : (Jvm.Cond.methodLinkNest "NumberDress" (22 : Nat) ({ cls := "NumberDress$Reader", name := "<init>", desc := "()V" } : Jvm.MethodName) "NumberDress") ∈ zNs := List.mem_of_getElem? (i := 1) rfl
theorem zn_270 : (Jvm.Cond.methodLinkNest "NumberDress$Reader" (24 : Nat) ({ cls := "NumberDress$Section", name := "<init>", desc := "()V" } : Jvm.MethodName) "NumberDress") ∈ zNs := List.mem_of_getElem? (i := 2) rfl
theorem zn_289 : (Jvm.Cond.methodLinkNest "NumberDress" (29 : Nat) ({ cls := "NumberDress$Value", name := "<init>", desc := "()V" } : Jvm.MethodName) "NumberDress") ∈ zNs := List.mem_of_getElem? (i := 3) rfl
theorem zn_327 : (Jvm.Cond.methodLinkNest "NumberDress" (36 : Nat) ({ cls := "NumberDress$Dresser", name := "<init>", desc := "()V" } : Jvm.MethodName) "NumberDress") ∈ zNs := List.mem_of_getElem? (i := 4) rfl
theorem zn_333 : (Jvm.Cond.methodLinkNest "NumberDress$Dresser" (11 : Nat) ({ cls := "NumberDress$NumberDresser", name := "<init>", desc := "()V" } : Jvm.MethodName) "NumberDress") ∈ zNs := List.mem_of_getElem? (i := 5) rfl
theorem zn_339 : (Jvm.Cond.methodLinkNest "NumberDress$NumberDresser" (11 : Nat) ({ cls := "NumberDress$Digits", name := "<init>", desc := "()V" } : Jvm.MethodName) "NumberDress") ∈ zNs := List.mem_of_getElem? (i := 6) rfl
theorem zn_368 : (Jvm.Cond.methodLinkNest "NumberDress$Dresser" (20 : Nat) ({ cls := "NumberDress$FractionDresser", name := "<init>", desc := "()V" } : Jvm.MethodName) "NumberDress") ∈ zNs := List.mem_of_getElem? (i := 7) rfl
theorem zn_374 : (Jvm.Cond.methodLinkNest "NumberDress$FractionDresser" (11 : Nat) ({ cls := "NumberDress$Split", name := "<init>", desc := "()V" } : Jvm.MethodName) "NumberDress") ∈ zNs := List.mem_of_getElem? (i := 8) rfl
theorem zn_379 : (Jvm.Cond.methodLinkNest "NumberDress$Split" (9 : Nat) ({ cls := "NumberDress$Digits", name := "<init>", desc := "()V" } : Jvm.MethodName) "NumberDress") ∈ zNs := List.mem_of_getElem? (i := 9) rfl
theorem zn_392 : (Jvm.Cond.methodLinkNest "NumberDress$FractionDresser" (20 : Nat) ({ cls := "NumberDress$Digits", name := "<init>", desc := "()V" } : Jvm.MethodName) "NumberDress") ∈ zNs := List.mem_of_getElem? (i := 10) rfl
theorem zn_411 : (Jvm.Cond.methodLinkNest "NumberDress$Dresser" (27 : Nat) ({ cls := "NumberDress$DateDresser", name := "<init>", desc := "()V" } : Jvm.MethodName) "NumberDress") ∈ zNs := List.mem_of_getElem? (i := 11) rfl
theorem zn_416 : (Jvm.Cond.methodLinkNest "NumberDress$DateDresser" (11 : Nat) ({ cls := "NumberDress$Split", name := "<init>", desc := "()V" } : Jvm.MethodName) "NumberDress") ∈ zNs := List.mem_of_getElem? (i := 12) rfl
theorem zn_451 : (Jvm.Cond.methodLinkNest "NumberDress" (43 : Nat) ({ cls := "NumberDress$Look", name := "<init>", desc := "()V" } : Jvm.MethodName) "NumberDress") ∈ zNs := List.mem_of_getElem? (i := 13) rfl
theorem zn_875 : (Jvm.Cond.fieldLinkNest "NumberDress$Dresser" (117 : Nat) "NumberDress" "TENS" "[J" "NumberDress") ∈ zNs := List.mem_of_getElem? (i := 14) rfl
theorem zn_878 : (Jvm.Cond.methodLinkNest "NumberDress$Dresser" (123 : Nat) ({ cls := "NumberDress", name := "digitsOf", desc := "(J)I" } : Jvm.MethodName) "NumberDress") ∈ zNs := List.mem_of_getElem? (i := 15) rfl
theorem zn_897 : (Jvm.Cond.fieldLinkNest "NumberDress$Look" (38 : Nat) "NumberDress" "TENS" "[J" "NumberDress") ∈ zNs := List.mem_of_getElem? (i := 16) rfl
theorem zn_898 : (Jvm.Cond.methodLinkNest "NumberDress$Look" (42 : Nat) ({ cls := "NumberDress", name := "tenTo", desc := "(I)J" } : Jvm.MethodName) "NumberDress") ∈ zNs := List.mem_of_getElem? (i := 17) rfl
theorem zn_906 : (Jvm.Cond.methodLinkNest "NumberDress$Dresser" (148 : Nat) ({ cls := "NumberDress", name := "tenTo", desc := "(I)J" } : Jvm.MethodName) "NumberDress") ∈ zNs := List.mem_of_getElem? (i := 18) rfl
theorem zn_926 : (Jvm.Cond.methodLinkNest "NumberDress$NumberDresser" (75 : Nat) ({ cls := "NumberDress", name := "digitsOf", desc := "(J)I" } : Jvm.MethodName) "NumberDress") ∈ zNs := List.mem_of_getElem? (i := 19) rfl
theorem zn_934 : (Jvm.Cond.methodLinkNest "NumberDress$Digits" (29 : Nat) ({ cls := "NumberDress", name := "cutRounded", desc := "(JI)J" } : Jvm.MethodName) "NumberDress") ∈ zNs := List.mem_of_getElem? (i := 20) rfl
theorem zn_941 : (Jvm.Cond.methodLinkNest "NumberDress$Digits" (17 : Nat) ({ cls := "NumberDress", name := "digitsOf", desc := "(J)I" } : Jvm.MethodName) "NumberDress") ∈ zNs := List.mem_of_getElem? (i := 21) rfl
theorem zn_970 : (Jvm.Cond.fieldLinkNest "NumberDress$Digits" (43 : Nat) "NumberDress" "TENS" "[J" "NumberDress") ∈ zNs := List.mem_of_getElem? (i := 22) rfl
theorem zn_971 : (Jvm.Cond.methodLinkNest "NumberDress$Digits" (47 : Nat) ({ cls := "NumberDress", name := "tenTo", desc := "(I)J" } : Jvm.MethodName) "NumberDress") ∈ zNs := List.mem_of_getElem? (i := 23) rfl
theorem zn_1000 : (Jvm.Cond.methodLinkNest "NumberDress$Split" (33 : Nat) ({ cls := "NumberDress", name := "tenTo", desc := "(I)J" } : Jvm.MethodName) "NumberDress") ∈ zNs := List.mem_of_getElem? (i := 24) rfl
theorem zn_1001 : (Jvm.Cond.methodLinkNest "NumberDress$Split" (39 : Nat) ({ cls := "NumberDress", name := "cutRounded", desc := "(JI)J" } : Jvm.MethodName) "NumberDress") ∈ zNs := List.mem_of_getElem? (i := 25) rfl
theorem zn_1013 : (Jvm.Cond.methodLinkNest "NumberDress$FractionDresser" (86 : Nat) ({ cls := "NumberDress", name := "tenTo", desc := "(I)J" } : Jvm.MethodName) "NumberDress") ∈ zNs := List.mem_of_getElem? (i := 26) rfl
theorem zn_1035 : (Jvm.Cond.methodLinkNest "NumberDress$FractionDresser" (127 : Nat) ({ cls := "NumberDress", name := "digitsOf", desc := "(J)I" } : Jvm.MethodName) "NumberDress") ∈ zNs := List.mem_of_getElem? (i := 27) rfl
theorem zn_1052 : (Jvm.Cond.methodLinkNest "NumberDress$DateDresser" (83 : Nat) ({ cls := "NumberDress", name := "tenTo", desc := "(I)J" } : Jvm.MethodName) "NumberDress") ∈ zNs := List.mem_of_getElem? (i := 28) rfl
def zIsNest : Cond → Bool
  | .fieldLinkNest .. => true
  | .methodLinkNest .. => true
  | _ => false
theorem zNs_nest : ∀ w ∈ zNs, zIsNest w = true := by decide +kernel
theorem zw_1 : (Cond.selects "NumberDress$Reader" ⟨"NumberDress$Reader", "sign", "(I)C"⟩ ⟨"NumberDress$Reader", "sign", "(I)C"⟩) ∈ zT := zw_mk 1 (by decide +kernel) (by decide +kernel)
theorem zw_110 : (Jvm.Cond.initialized "NumberDress") ∈ zT := zw_mk 110 (by decide +kernel) (by decide +kernel)
theorem zw_113 : (Jvm.Cond.initialized "NumberDress$Reader") ∈ zT := zw_mk 113 (by decide +kernel) (by decide +kernel)
theorem zw_128 : (Jvm.Cond.initialized "java/lang/Math") ∈ zT := zw_mk 128 (by decide +kernel) (by decide +kernel)
theorem zw_156 : (Jvm.Cond.fieldLink "NumberDress$Section" (9 : Nat) "NumberDress$Section" "kind" "I") ∈ zT := zw_mk 156 (by decide +kernel) (by decide +kernel)
theorem zw_162 : (Jvm.Cond.fieldLink "NumberDress$Section" (15 : Nat) "NumberDress$Section" "first" "I") ∈ zT := zw_mk 162 (by decide +kernel) (by decide +kernel)
theorem zw_168 : (Jvm.Cond.fieldLink "NumberDress$Section" (18 : Nat) "NumberDress$Section" "end" "I") ∈ zT := zw_mk 168 (by decide +kernel) (by decide +kernel)
theorem zw_175 : (Jvm.Cond.fieldLink "NumberDress$Section" (21 : Nat) "NumberDress$Section" "wholes" "I") ∈ zT := zw_mk 175 (by decide +kernel) (by decide +kernel)
theorem zw_178 : (Jvm.Cond.fieldLink "NumberDress$Section" (24 : Nat) "NumberDress$Section" "decimals" "I") ∈ zT := zw_mk 178 (by decide +kernel) (by decide +kernel)
theorem zw_181 : (Jvm.Cond.fieldLink "NumberDress$Section" (27 : Nat) "NumberDress$Section" "point" "Z") ∈ zT := zw_mk 181 (by decide +kernel) (by decide +kernel)
theorem zw_183 : (Jvm.Cond.fieldLink "NumberDress$Section" (31 : Nat) "NumberDress$Section" "thousands" "Z") ∈ zT := zw_mk 183 (by decide +kernel) (by decide +kernel)
theorem zw_187 : (Jvm.Cond.fieldLink "NumberDress$Section" (34 : Nat) "NumberDress$Section" "thousandths" "I") ∈ zT := zw_mk 187 (by decide +kernel) (by decide +kernel)
theorem zw_190 : (Jvm.Cond.fieldLink "NumberDress$Section" (37 : Nat) "NumberDress$Section" "percents" "I") ∈ zT := zw_mk 190 (by decide +kernel) (by decide +kernel)
theorem zw_192 : (Jvm.Cond.fieldLink "NumberDress$Section" (40 : Nat) "NumberDress$Section" "powers" "I") ∈ zT := zw_mk 192 (by decide +kernel) (by decide +kernel)
theorem zw_195 : (Jvm.Cond.fieldLink "NumberDress$Section" (43 : Nat) "NumberDress$Section" "numerators" "I") ∈ zT := zw_mk 195 (by decide +kernel) (by decide +kernel)
theorem zw_198 : (Jvm.Cond.fieldLink "NumberDress$Section" (46 : Nat) "NumberDress$Section" "denominators" "I") ∈ zT := zw_mk 198 (by decide +kernel) (by decide +kernel)
theorem zw_201 : (Jvm.Cond.fieldLink "NumberDress$Section" (49 : Nat) "NumberDress$Section" "given" "I") ∈ zT := zw_mk 201 (by decide +kernel) (by decide +kernel)
theorem zw_205 : (Jvm.Cond.fieldLink "NumberDress$Section" (52 : Nat) "NumberDress$Section" "parts" "I") ∈ zT := zw_mk 205 (by decide +kernel) (by decide +kernel)
theorem zw_207 : (Jvm.Cond.fieldLink "NumberDress$Section" (55 : Nat) "NumberDress$Section" "halfDays" "Z") ∈ zT := zw_mk 207 (by decide +kernel) (by decide +kernel)
theorem zw_246 : (Jvm.Cond.fieldLink "NumberDress$Code" (21 : Nat) "NumberDress$Code" "kinds" "[I") ∈ zT := zw_mk 246 (by decide +kernel) (by decide +kernel)
theorem zw_247 : (Jvm.Cond.fieldLink "NumberDress$Code" (25 : Nat) "NumberDress$Code" "marks" "[I") ∈ zT := zw_mk 247 (by decide +kernel) (by decide +kernel)
theorem zw_248 : (Jvm.Cond.fieldLink "NumberDress$Code" (29 : Nat) "NumberDress$Code" "items" "I") ∈ zT := zw_mk 248 (by decide +kernel) (by decide +kernel)
theorem zw_271 : (Jvm.Cond.fieldLink "NumberDress$Reader" (9 : Nat) "NumberDress$Reader" "signs" "[C") ∈ zT := zw_mk 271 (by decide +kernel) (by decide +kernel)
theorem zw_272 : (Jvm.Cond.fieldLink "NumberDress$Reader" (35 : Nat) "NumberDress$Reader" "length" "I") ∈ zT := zw_mk 272 (by decide +kernel) (by decide +kernel)
theorem zw_345 : (Jvm.Cond.fieldLink "NumberDress$Digits" (23 : Nat) "NumberDress$Digits" "count" "I") ∈ zT := zw_mk 345 (by decide +kernel) (by decide +kernel)
theorem zw_346 : (Jvm.Cond.fieldLink "NumberDress$Digits" (26 : Nat) "NumberDress$Digits" "decimals" "I") ∈ zT := zw_mk 346 (by decide +kernel) (by decide +kernel)
theorem zw_512 : (Jvm.Cond.methodLink "NumberDress$Reader" (86 : Nat) ({ cls := "NumberDress$Reader", name := "sign", desc := "(I)C" } : Jvm.MethodName)) ∈ zT := zw_mk 512 (by decide +kernel) (by decide +kernel)
theorem zw_514 : (Jvm.Cond.instanceMethod ({ cls := "NumberDress$Reader", name := "sign", desc := "(I)C" } : Jvm.MethodName)) ∈ zT := zw_mk 514 (by decide +kernel) (by decide +kernel)
theorem zw_515 : (Jvm.Cond.code ({ cls := "NumberDress$Reader", name := "sign", desc := "(I)C" } : Jvm.MethodName) prog_9_method_34_code (2 : Nat) (Option.some Jvm.ClassFile.FieldType.char)) ∈ zT := zw_mk 515 (by decide +kernel) (by decide +kernel)
theorem zw_615 : (Jvm.Cond.static ({ cls := "java/lang/Math", name := "max", desc := "(II)I" } : Jvm.MethodName)) ∈ zT := zw_mk 615 (by decide +kernel) (by decide +kernel)
theorem zw_616 : (Jvm.Cond.code ({ cls := "java/lang/Math", name := "max", desc := "(II)I" } : Jvm.MethodName) prog_19_method_65_code (2 : Nat) (Option.some Jvm.ClassFile.FieldType.int)) ∈ zT := zw_mk 616 (by decide +kernel) (by decide +kernel)
theorem zw_668 : (Jvm.Cond.code ({ cls := "NumberDress$Section", name := "clear", desc := "(I)V" } : Jvm.MethodName) prog_10_method_2_code (2 : Nat) (Option.none : Option Jvm.ClassFile.FieldType)) ∈ zT := zw_mk 668 (by decide +kernel) (by decide +kernel)
theorem zw_678 : (Jvm.Cond.methodLink "NumberDress$Reader" (102 : Nat) ({ cls := "NumberDress$Reader", name := "isPlace", desc := "(C)Z" } : Jvm.MethodName)) ∈ zT := zw_mk 678 (by decide +kernel) (by decide +kernel)
theorem zw_679 : (Jvm.Cond.static ({ cls := "NumberDress$Reader", name := "isPlace", desc := "(C)Z" } : Jvm.MethodName)) ∈ zT := zw_mk 679 (by decide +kernel) (by decide +kernel)
theorem zw_680 : (Jvm.Cond.code ({ cls := "NumberDress$Reader", name := "isPlace", desc := "(C)Z" } : Jvm.MethodName) prog_9_method_40_code (1 : Nat) (Option.some Jvm.ClassFile.FieldType.boolean)) ∈ zT := zw_mk 680 (by decide +kernel) (by decide +kernel)
theorem zw_713 : (Jvm.Cond.code ({ cls := "NumberDress$Code", name := "add", desc := "(II)V" } : Jvm.MethodName) prog_2_method_5_code (3 : Nat) (Option.none : Option Jvm.ClassFile.FieldType)) ∈ zT := zw_mk 713 (by decide +kernel) (by decide +kernel)
theorem zw_749 : (Jvm.Cond.code ({ cls := "NumberDress$Reader", name := "placesFrom", desc := "(I)I" } : Jvm.MethodName) prog_9_method_22_code (3 : Nat) (Option.some Jvm.ClassFile.FieldType.int)) ∈ zT := zw_mk 749 (by decide +kernel) (by decide +kernel)
theorem zw_880 : (Jvm.Cond.code ({ cls := "NumberDress", name := "digitsOf", desc := "(J)I" } : Jvm.MethodName) prog_1_method_11_code (3 : Nat) (Option.some Jvm.ClassFile.FieldType.int)) ∈ zT := zw_mk 880 (by decide +kernel) (by decide +kernel)
theorem zw_881 : (Jvm.Cond.fieldLink "NumberDress" (119 : Nat) "NumberDress" "TENS" "[J") ∈ zT := zw_mk 881 (by decide +kernel) (by decide +kernel)
theorem zw_882 : (Jvm.Cond.methodLink "NumberDress" (123 : Nat) ({ cls := "NumberDress", name := "tenTo", desc := "(I)J" } : Jvm.MethodName)) ∈ zT := zw_mk 882 (by decide +kernel) (by decide +kernel)
theorem zw_883 : (Jvm.Cond.static ({ cls := "NumberDress", name := "tenTo", desc := "(I)J" } : Jvm.MethodName)) ∈ zT := zw_mk 883 (by decide +kernel) (by decide +kernel)
theorem zw_884 : (Jvm.Cond.code ({ cls := "NumberDress", name := "tenTo", desc := "(I)J" } : Jvm.MethodName) prog_1_method_10_code (1 : Nat) (Option.some Jvm.ClassFile.FieldType.long)) ∈ zT := zw_mk 884 (by decide +kernel) (by decide +kernel)
theorem zw_945 : (Jvm.Cond.code ({ cls := "NumberDress$Digits", name := "wholes", desc := "()I" } : Jvm.MethodName) prog_4_method_5_code (1 : Nat) (Option.some Jvm.ClassFile.FieldType.int)) ∈ zT := zw_mk 945 (by decide +kernel) (by decide +kernel)
theorem zw_946 : (Jvm.Cond.methodLink "NumberDress$Digits" (37 : Nat) ({ cls := "java/lang/Math", name := "max", desc := "(II)I" } : Jvm.MethodName)) ∈ zT := zw_mk 946 (by decide +kernel) (by decide +kernel)
