def zT : List Cond := lw_tbl.filter goodWord
theorem zw_mk {w : Cond} (i : Nat) (h : lw_tbl[i]? = some w) (g : goodWord w = true) : w ∈ zT := List.mem_filter.mpr ⟨List.mem_of_getElem? h, g⟩
theorem zin_mk {ws : List Cond} (h : ws.all (fun w => decide (w ∈ lw_tbl) && goodWord w) = true) : ∀ w ∈ ws, w ∈ zT := fun w hw => by
  have h1 := List.all_eq_true.mp h w hw
  rw [Bool.and_eq_true] at h1
  exact List.mem_filter.mpr ⟨of_decide_eq_true h1.1, h1.2⟩
theorem zG_in {c : Cond} (h : c ∈ zT) : GoodIn zT (c :: zT) := fun w hw => by
  have hz : w ∈ zT := by
    rcases List.mem_cons.mp hw with e | e
    · rw [e]; exact h
    · exact e
  exact ⟨hz, good_of_word (List.mem_filter.mp hz).2⟩
theorem zw_tb {w : Cond} (h : w ∈ tables_1) (g : goodWord w = true) : w ∈ zT := List.mem_filter.mpr ⟨List.mem_append_right _ h, g⟩
theorem zw_pr {q : MethodName × Nat} (h : q ∈ lw_privs) (g : goodWord (Cond.selects q.1.cls q.1 q.1) = true) : Cond.selects q.1.cls q.1 q.1 ∈ zT := List.mem_filter.mpr ⟨List.mem_append_left _ (List.mem_map.mpr ⟨q, h, rfl⟩), g⟩
theorem zq_tables_1_1 : ∀ w ∈ tables_1_1, w ∈ tables_1 := fun _ h => List.mem_append_left _ h
theorem zq_tables_1_2 : ∀ w ∈ tables_1_2, w ∈ tables_1 := fun _ h => List.mem_append_right _ (List.mem_append_left _ h)
theorem zq_tables_1_3 : ∀ w ∈ tables_1_3, w ∈ tables_1 := fun _ h => List.mem_append_right _ (List.mem_append_right _ (List.mem_append_left _ h))
theorem zq_tables_1_4 : ∀ w ∈ tables_1_4, w ∈ tables_1 := fun _ h => List.mem_append_right _ (List.mem_append_right _ (List.mem_append_right _ (List.mem_append_left _ h)))
theorem zq_tables_1_5 : ∀ w ∈ tables_1_5, w ∈ tables_1 := fun _ h => List.mem_append_right _ (List.mem_append_right _ (List.mem_append_right _ (List.mem_append_right _ (List.mem_append_left _ h))))
theorem zq_tables_1_6 : ∀ w ∈ tables_1_6, w ∈ tables_1 := fun _ h => List.mem_append_right _ (List.mem_append_right _ (List.mem_append_right _ (List.mem_append_right _ (List.mem_append_right _ (List.mem_append_left _ h)))))
theorem zq_tables_1_7 : ∀ w ∈ tables_1_7, w ∈ tables_1 := fun _ h => List.mem_append_right _ (List.mem_append_right _ (List.mem_append_right _ (List.mem_append_right _ (List.mem_append_right _ (List.mem_append_right _ (h))))))
theorem zp_lw_privs_1 : ∀ q ∈ lw_privs_1, q ∈ lw_privs := fun _ h => List.mem_append_left _ h
theorem zp_lw_privs_2 : ∀ q ∈ lw_privs_2, q ∈ lw_privs := fun _ h => List.mem_append_right _ (List.mem_append_left _ h)
theorem zp_lw_privs_3 : ∀ q ∈ lw_privs_3, q ∈ lw_privs := fun _ h => List.mem_append_right _ (List.mem_append_right _ (List.mem_append_left _ h))
theorem zp_lw_privs_4 : ∀ q ∈ lw_privs_4, q ∈ lw_privs := fun _ h => List.mem_append_right _ (List.mem_append_right _ (List.mem_append_right _ (List.mem_append_left _ h)))
theorem zp_lw_privs_5 : ∀ q ∈ lw_privs_5, q ∈ lw_privs := fun _ h => List.mem_append_right _ (List.mem_append_right _ (List.mem_append_right _ (List.mem_append_right _ (List.mem_append_left _ h))))
theorem zp_lw_privs_6 : ∀ q ∈ lw_privs_6, q ∈ lw_privs := fun _ h => List.mem_append_right _ (List.mem_append_right _ (List.mem_append_right _ (List.mem_append_right _ (List.mem_append_right _ (List.mem_append_left _ h)))))
theorem zp_lw_privs_7 : ∀ q ∈ lw_privs_7, q ∈ lw_privs := fun _ h => List.mem_append_right _ (List.mem_append_right _ (List.mem_append_right _ (List.mem_append_right _ (List.mem_append_right _ (List.mem_append_right _ (h))))))
def T_ND : u_T := fun k => match k with
  | 0 => ("NumberDress", "typed", "[C", true)
  | 1 => ("NumberDress", "typedLength", "I", false)
  | 2 => ("NumberDress", "current", "LNumberDress$Code;", false)
  | 3 => ("NumberDress", "reader", "LNumberDress$Reader;", true)
  | 4 => ("NumberDress", "value", "LNumberDress$Value;", true)
  | 5 => ("NumberDress", "dresser", "LNumberDress$Dresser;", true)
  | _ => ("NumberDress", "shown", "LNumberDress$Look;", true)
def ty_ND : Nat → FieldType := fun k => match k with
  | 0 => .array .char
  | 1 => .int
  | 2 => .object "NumberDress$Code"
  | 3 => .object "NumberDress$Reader"
  | 4 => .object "NumberDress$Value"
  | 5 => .object "NumberDress$Dresser"
  | _ => .object "NumberDress$Look"
theorem nm_ND : ∀ a, a < 7 → ∀ b, b < 7 → a ≠ b → (T_ND a).2.1 ≠ (T_ND b).2.1 := by decide +kernel
theorem tyok_ND : ∀ k, k < 7 → parseFieldDescriptor (T_ND k).2.2.1 = some (ty_ND k) := by decide +kernel
theorem zin_ND : ∀ w ∈ u_ws "NumberDress" T_ND 7, w ∈ zT := zin_mk (by decide +kernel)
def T_Code : u_T := fun k => match k with
  | 0 => ("NumberDress$Code", "sections", "[LNumberDress$Section;", true)
  | 1 => ("NumberDress$Code", "count", "I", false)
  | 2 => ("NumberDress$Code", "kinds", "[I", true)
  | 3 => ("NumberDress$Code", "marks", "[I", true)
  | _ => ("NumberDress$Code", "items", "I", false)
def ty_Code : Nat → FieldType := fun k => match k with
  | 0 => .array (.object "NumberDress$Section")
  | 1 => .int
  | 2 => .array .int
  | 3 => .array .int
  | _ => .int
theorem nm_Code : ∀ a, a < 5 → ∀ b, b < 5 → a ≠ b → (T_Code a).2.1 ≠ (T_Code b).2.1 := by decide +kernel
theorem tyok_Code : ∀ k, k < 5 → parseFieldDescriptor (T_Code k).2.2.1 = some (ty_Code k) := by decide +kernel
theorem zin_Code : ∀ w ∈ u_ws "NumberDress$Code" T_Code 5, w ∈ zT := zin_mk (by decide +kernel)
def T_DateDresser : u_T := fun k => match k with
  | 0 => ("NumberDress$DateDresser", "split", "LNumberDress$Split;", true)
  | 1 => ("NumberDress$DateDresser", "days", "J", false)
  | 2 => ("NumberDress$DateDresser", "seconds", "J", false)
  | 3 => ("NumberDress$DateDresser", "thousandths", "J", false)
  | 4 => ("NumberDress$DateDresser", "year", "I", false)
  | 5 => ("NumberDress$DateDresser", "month", "I", false)
  | _ => ("NumberDress$DateDresser", "day", "I", false)
def ty_DateDresser : Nat → FieldType := fun k => match k with
  | 0 => .object "NumberDress$Split"
  | 1 => .long
  | 2 => .long
  | 3 => .long
  | 4 => .int
  | 5 => .int
  | _ => .int
theorem nm_DateDresser : ∀ a, a < 7 → ∀ b, b < 7 → a ≠ b → (T_DateDresser a).2.1 ≠ (T_DateDresser b).2.1 := by decide +kernel
theorem tyok_DateDresser : ∀ k, k < 7 → parseFieldDescriptor (T_DateDresser k).2.2.1 = some (ty_DateDresser k) := by decide +kernel
theorem zin_DateDresser : ∀ w ∈ u_ws "NumberDress$DateDresser" T_DateDresser 7, w ∈ zT := zin_mk (by decide +kernel)
def T_Digits : u_T := fun k => match k with
  | 0 => ("NumberDress$Digits", "head", "J", false)
  | 1 => ("NumberDress$Digits", "zeros", "I", false)
  | 2 => ("NumberDress$Digits", "count", "I", false)
  | _ => ("NumberDress$Digits", "decimals", "I", false)
def ty_Digits : Nat → FieldType := fun k => match k with
  | 0 => .long
  | 1 => .int
  | 2 => .int
  | _ => .int
theorem nm_Digits : ∀ a, a < 4 → ∀ b, b < 4 → a ≠ b → (T_Digits a).2.1 ≠ (T_Digits b).2.1 := by decide +kernel
theorem tyok_Digits : ∀ k, k < 4 → parseFieldDescriptor (T_Digits k).2.2.1 = some (ty_Digits k) := by decide +kernel
theorem zin_Digits : ∀ w ∈ u_ws "NumberDress$Digits" T_Digits 4, w ∈ zT := zin_mk (by decide +kernel)
def T_Dresser : u_T := fun k => match k with
  | 0 => ("NumberDress$Dresser", "numbers", "LNumberDress$NumberDresser;", true)
  | 1 => ("NumberDress$Dresser", "fractions", "LNumberDress$FractionDresser;", true)
  | _ => ("NumberDress$Dresser", "dates", "LNumberDress$DateDresser;", true)
def ty_Dresser : Nat → FieldType := fun k => match k with
  | 0 => .object "NumberDress$NumberDresser"
  | 1 => .object "NumberDress$FractionDresser"
  | _ => .object "NumberDress$DateDresser"
theorem nm_Dresser : ∀ a, a < 3 → ∀ b, b < 3 → a ≠ b → (T_Dresser a).2.1 ≠ (T_Dresser b).2.1 := by decide +kernel
theorem tyok_Dresser : ∀ k, k < 3 → parseFieldDescriptor (T_Dresser k).2.2.1 = some (ty_Dresser k) := by decide +kernel
theorem zin_Dresser : ∀ w ∈ u_ws "NumberDress$Dresser" T_Dresser 3, w ∈ zT := zin_mk (by decide +kernel)
def T_FractionDresser : u_T := fun k => match k with
  | 0 => ("NumberDress$FractionDresser", "split", "LNumberDress$Split;", true)
  | 1 => ("NumberDress$FractionDresser", "top", "LNumberDress$Digits;", true)
  | 2 => ("NumberDress$FractionDresser", "over", "J", false)
  | 3 => ("NumberDress$FractionDresser", "under", "J", false)
  | _ => ("NumberDress$FractionDresser", "gap", "J", false)
def ty_FractionDresser : Nat → FieldType := fun k => match k with
  | 0 => .object "NumberDress$Split"
  | 1 => .object "NumberDress$Digits"
  | 2 => .long
  | 3 => .long
  | _ => .long
theorem nm_FractionDresser : ∀ a, a < 5 → ∀ b, b < 5 → a ≠ b → (T_FractionDresser a).2.1 ≠ (T_FractionDresser b).2.1 := by decide +kernel
theorem tyok_FractionDresser : ∀ k, k < 5 → parseFieldDescriptor (T_FractionDresser k).2.2.1 = some (ty_FractionDresser k) := by decide +kernel
theorem zin_FractionDresser : ∀ w ∈ u_ws "NumberDress$FractionDresser" T_FractionDresser 5, w ∈ zT := zin_mk (by decide +kernel)
def T_Look : u_T := fun k => match k with
  | 0 => ("NumberDress$Look", "row", "[C", false)
  | 1 => ("NumberDress$Look", "length", "I", false)
  | _ => ("NumberDress$Look", "done", "Z", false)
def ty_Look : Nat → FieldType := fun k => match k with
  | 0 => .array .char
  | 1 => .int
  | _ => .boolean
theorem nm_Look : ∀ a, a < 3 → ∀ b, b < 3 → a ≠ b → (T_Look a).2.1 ≠ (T_Look b).2.1 := by decide +kernel
theorem tyok_Look : ∀ k, k < 3 → parseFieldDescriptor (T_Look k).2.2.1 = some (ty_Look k) := by decide +kernel
theorem zin_Look : ∀ w ∈ u_ws "NumberDress$Look" T_Look 3, w ∈ zT := zin_mk (by decide +kernel)
def T_NumberDresser : u_T := fun k => match k with
  | 0 => ("NumberDress$NumberDresser", "digits", "LNumberDress$Digits;", true)
  | 1 => ("NumberDress$NumberDresser", "powerDigits", "LNumberDress$Digits;", true)
  | _ => ("NumberDress$NumberDresser", "power", "I", false)
def ty_NumberDresser : Nat → FieldType := fun k => match k with
  | 0 => .object "NumberDress$Digits"
  | 1 => .object "NumberDress$Digits"
  | _ => .int
theorem nm_NumberDresser : ∀ a, a < 3 → ∀ b, b < 3 → a ≠ b → (T_NumberDresser a).2.1 ≠ (T_NumberDresser b).2.1 := by decide +kernel
theorem tyok_NumberDresser : ∀ k, k < 3 → parseFieldDescriptor (T_NumberDresser k).2.2.1 = some (ty_NumberDresser k) := by decide +kernel
theorem zin_NumberDresser : ∀ w ∈ u_ws "NumberDress$NumberDresser" T_NumberDresser 3, w ∈ zT := zin_mk (by decide +kernel)
def T_Reader : u_T := fun k => match k with
  | 0 => ("NumberDress$Reader", "signs", "[C", false)
  | 1 => ("NumberDress$Reader", "length", "I", false)
  | 2 => ("NumberDress$Reader", "code", "LNumberDress$Code;", false)
  | 3 => ("NumberDress$Reader", "section", "LNumberDress$Section;", false)
  | _ => ("NumberDress$Reader", "kindPlace", "I", false)
def ty_Reader : Nat → FieldType := fun k => match k with
  | 0 => .array .char
  | 1 => .int
  | 2 => .object "NumberDress$Code"
  | 3 => .object "NumberDress$Section"
  | _ => .int
theorem nm_Reader : ∀ a, a < 5 → ∀ b, b < 5 → a ≠ b → (T_Reader a).2.1 ≠ (T_Reader b).2.1 := by decide +kernel
theorem tyok_Reader : ∀ k, k < 5 → parseFieldDescriptor (T_Reader k).2.2.1 = some (ty_Reader k) := by decide +kernel
theorem zin_Reader : ∀ w ∈ u_ws "NumberDress$Reader" T_Reader 5, w ∈ zT := zin_mk (by decide +kernel)
def T_Section : u_T := fun k => match k with
  | 0 => ("NumberDress$Section", "kind", "I", false)
  | 1 => ("NumberDress$Section", "first", "I", false)
  | 2 => ("NumberDress$Section", "end", "I", false)
  | 3 => ("NumberDress$Section", "wholes", "I", false)
  | 4 => ("NumberDress$Section", "decimals", "I", false)
  | 5 => ("NumberDress$Section", "point", "Z", false)
  | 6 => ("NumberDress$Section", "thousands", "Z", false)
  | 7 => ("NumberDress$Section", "thousandths", "I", false)
  | 8 => ("NumberDress$Section", "percents", "I", false)
  | 9 => ("NumberDress$Section", "powers", "I", false)
  | 10 => ("NumberDress$Section", "numerators", "I", false)
  | 11 => ("NumberDress$Section", "denominators", "I", false)
  | 12 => ("NumberDress$Section", "given", "I", false)
  | 13 => ("NumberDress$Section", "parts", "I", false)
  | _ => ("NumberDress$Section", "halfDays", "Z", false)
def ty_Section : Nat → FieldType := fun k => match k with
  | 0 => .int
  | 1 => .int
  | 2 => .int
  | 3 => .int
  | 4 => .int
  | 5 => .boolean
  | 6 => .boolean
  | 7 => .int
  | 8 => .int
  | 9 => .int
  | 10 => .int
  | 11 => .int
  | 12 => .int
  | 13 => .int
  | _ => .boolean
theorem nm_Section : ∀ a, a < 15 → ∀ b, b < 15 → a ≠ b → (T_Section a).2.1 ≠ (T_Section b).2.1 := by decide +kernel
theorem tyok_Section : ∀ k, k < 15 → parseFieldDescriptor (T_Section k).2.2.1 = some (ty_Section k) := by decide +kernel
theorem zin_Section : ∀ w ∈ u_ws "NumberDress$Section" T_Section 15, w ∈ zT := zin_mk (by decide +kernel)
def T_Split : u_T := fun k => match k with
  | 0 => ("NumberDress$Split", "whole", "LNumberDress$Digits;", true)
  | _ => ("NumberDress$Split", "rest", "J", false)
def ty_Split : Nat → FieldType := fun k => match k with
  | 0 => .object "NumberDress$Digits"
  | _ => .long
theorem nm_Split : ∀ a, a < 2 → ∀ b, b < 2 → a ≠ b → (T_Split a).2.1 ≠ (T_Split b).2.1 := by decide +kernel
theorem tyok_Split : ∀ k, k < 2 → parseFieldDescriptor (T_Split k).2.2.1 = some (ty_Split k) := by decide +kernel
theorem zin_Split : ∀ w ∈ u_ws "NumberDress$Split" T_Split 2, w ∈ zT := zin_mk (by decide +kernel)
def T_Value : u_T := fun k => match k with
  | 0 => ("NumberDress$Value", "isText", "Z", false)
  | 1 => ("NumberDress$Value", "negative", "Z", false)
  | 2 => ("NumberDress$Value", "digits", "J", false)
  | 3 => ("NumberDress$Value", "scale", "I", false)
  | 4 => ("NumberDress$Value", "words", "[C", true)
  | _ => ("NumberDress$Value", "wordsLength", "I", false)
def ty_Value : Nat → FieldType := fun k => match k with
  | 0 => .boolean
  | 1 => .boolean
  | 2 => .long
  | 3 => .int
  | 4 => .array .char
  | _ => .int
theorem nm_Value : ∀ a, a < 6 → ∀ b, b < 6 → a ≠ b → (T_Value a).2.1 ≠ (T_Value b).2.1 := by decide +kernel
theorem tyok_Value : ∀ k, k < 6 → parseFieldDescriptor (T_Value k).2.2.1 = some (ty_Value k) := by decide +kernel
theorem zin_Value : ∀ w ∈ u_ws "NumberDress$Value" T_Value 6, w ∈ zT := zin_mk (by decide +kernel)
def T_M : u_T := fun k => match k with
  | 0 => ("NumberDressModel", "code", "I", false)
  | 1 => ("NumberDressModel", "length", "I", false)
  | 2 => ("NumberDressModel", "typed", "[I", true)
  | 3 => ("NumberDressModel", "end", "I", false)
  | 4 => ("NumberDressModel", "sections", "[I", true)
  | 5 => ("NumberDressModel", "sectionKind", "[I", true)
  | 6 => ("NumberDressModel", "sectionItem", "[I", true)
  | 7 => ("NumberDressModel", "sectionEnd", "[I", true)
  | 8 => ("NumberDressModel", "kind", "[I", true)
  | 9 => ("NumberDressModel", "first", "[I", true)
  | 10 => ("NumberDressModel", "second", "[I", true)
  | 11 => ("NumberDressModel", "packed", "[I", true)
  | 12 => ("NumberDressModel", "items", "I", false)
  | 13 => ("NumberDressModel", "wrong", "I", false)
  | 14 => ("NumberDressModel", "at", "I", false)
  | 15 => ("NumberDressModel", "point", "Z", false)
  | 16 => ("NumberDressModel", "parted", "Z", false)
  | 17 => ("NumberDressModel", "behind", "Z", false)
  | 18 => ("NumberDressModel", "commas", "Z", false)
  | 19 => ("NumberDressModel", "percents", "Z", false)
  | 20 => ("NumberDressModel", "isText", "Z", false)
  | 21 => ("NumberDressModel", "textLength", "I", false)
  | 22 => ("NumberDressModel", "text", "[I", true)
  | 23 => ("NumberDressModel", "negative", "Z", false)
  | 24 => ("NumberDressModel", "count", "I", false)
  | 25 => ("NumberDressModel", "place", "I", false)
  | 26 => ("NumberDressModel", "digits", "[I", true)
  | 27 => ("NumberDressModel", "many", "I", false)
  | 28 => ("NumberDressModel", "dot", "I", false)
  | 29 => ("NumberDressModel", "row", "[I", true)
  | 30 => ("NumberDressModel", "wholes", "I", false)
  | 31 => ("NumberDressModel", "whole", "[I", true)
  | 32 => ("NumberDressModel", "rest", "[I", true)
  | 33 => ("NumberDressModel", "size", "I", false)
  | 34 => ("NumberDressModel", "look", "[I", true)
  | 35 => ("NumberDressModel", "day", "I", false)
  | 36 => ("NumberDressModel", "ticks", "J", false)
  | 37 => ("NumberDressModel", "parts", "I", false)
  | 38 => ("NumberDressModel", "year", "I", false)
  | 39 => ("NumberDressModel", "month", "I", false)
  | _ => ("NumberDressModel", "dayOfMonth", "I", false)
def ty_M : Nat → FieldType := fun k => match k with
  | 0 => .int
  | 1 => .int
  | 2 => .array .int
  | 3 => .int
  | 4 => .array .int
  | 5 => .array .int
  | 6 => .array .int
  | 7 => .array .int
  | 8 => .array .int
  | 9 => .array .int
  | 10 => .array .int
  | 11 => .array .int
  | 12 => .int
  | 13 => .int
  | 14 => .int
  | 15 => .boolean
  | 16 => .boolean
  | 17 => .boolean
  | 18 => .boolean
  | 19 => .boolean
  | 20 => .boolean
  | 21 => .int
  | 22 => .array .int
  | 23 => .boolean
  | 24 => .int
  | 25 => .int
  | 26 => .array .int
  | 27 => .int
  | 28 => .int
  | 29 => .array .int
  | 30 => .int
  | 31 => .array .int
  | 32 => .array .int
  | 33 => .int
  | 34 => .array .int
  | 35 => .int
  | 36 => .long
  | 37 => .int
  | 38 => .int
  | 39 => .int
  | _ => .int
theorem nm_M : ∀ a, a < 41 → ∀ b, b < 41 → a ≠ b → (T_M a).2.1 ≠ (T_M b).2.1 := by decide +kernel
theorem tyok_M : ∀ k, k < 41 → parseFieldDescriptor (T_M k).2.2.1 = some (ty_M k) := by decide +kernel
theorem zin_M : ∀ w ∈ u_ws "NumberDressModel" T_M 41, w ∈ zT := zin_mk (by decide +kernel)
abbrev o_ND (I : Nat → Int32) (r0 : Nat) (r2 : Nat) (r3 : Nat) (r4 : Nat) (r5 : Nat) (r6 : Nat) : List Value := [.ref r0, .int (I 1), .ref r2, .ref r3, .ref r4, .ref r5, .ref r6]
abbrev o_Code (I : Nat → Int32) (r0 : Nat) (r2 : Nat) (r3 : Nat) : List Value := [.ref r0, .int (I 1), .ref r2, .ref r3, .int (I 4)]
abbrev o_DateDresser (I : Nat → Int32) (J : Nat → Int64) (r0 : Nat) : List Value := [.ref r0, .long (J 1), .long (J 2), .long (J 3), .int (I 4), .int (I 5), .int (I 6)]
abbrev o_Digits (I : Nat → Int32) (J : Nat → Int64) : List Value := [.long (J 0), .int (I 1), .int (I 2), .int (I 3)]
abbrev o_Dresser (r0 : Nat) (r1 : Nat) (r2 : Nat) : List Value := [.ref r0, .ref r1, .ref r2]
abbrev o_FractionDresser (J : Nat → Int64) (r0 : Nat) (r1 : Nat) : List Value := [.ref r0, .ref r1, .long (J 2), .long (J 3), .long (J 4)]
abbrev o_Look (I : Nat → Int32) (r0 : Nat) : List Value := [.ref r0, .int (I 1), .int (I 2)]
abbrev o_NumberDresser (I : Nat → Int32) (r0 : Nat) (r1 : Nat) : List Value := [.ref r0, .ref r1, .int (I 2)]
abbrev o_Reader (I : Nat → Int32) (r0 : Nat) (r2 : Nat) (r3 : Nat) : List Value := [.ref r0, .int (I 1), .ref r2, .ref r3, .int (I 4)]
abbrev o_Section (I : Nat → Int32) : List Value := [.int (I 0), .int (I 1), .int (I 2), .int (I 3), .int (I 4), .int (I 5), .int (I 6), .int (I 7), .int (I 8), .int (I 9), .int (I 10), .int (I 11), .int (I 12), .int (I 13), .int (I 14)]
abbrev o_Split (J : Nat → Int64) (r0 : Nat) : List Value := [.ref r0, .long (J 1)]
abbrev o_Value (I : Nat → Int32) (J : Nat → Int64) (r4 : Nat) : List Value := [.int (I 0), .int (I 1), .long (J 2), .int (I 3), .ref r4, .int (I 5)]
abbrev o_M (I : Nat → Int32) (J : Nat → Int64) (r2 : Nat) (r4 : Nat) (r5 : Nat) (r6 : Nat) (r7 : Nat) (r8 : Nat) (r9 : Nat) (r10 : Nat) (r11 : Nat) (r22 : Nat) (r26 : Nat) (r29 : Nat) (r31 : Nat) (r32 : Nat) (r34 : Nat) : List Value := [.int (I 0), .int (I 1), .ref r2, .int (I 3), .ref r4, .ref r5, .ref r6, .ref r7, .ref r8, .ref r9, .ref r10, .ref r11, .int (I 12), .int (I 13), .int (I 14), .int (I 15), .int (I 16), .int (I 17), .int (I 18), .int (I 19), .int (I 20), .int (I 21), .ref r22, .int (I 23), .int (I 24), .int (I 25), .ref r26, .int (I 27), .int (I 28), .ref r29, .int (I 30), .ref r31, .ref r32, .int (I 33), .ref r34, .int (I 35), .long (J 36), .int (I 37), .int (I 38), .int (I 39), .int (I 40)]
abbrev zCl : List vw_C := [("NumberDress", T_ND, 7), ("NumberDress$Code", T_Code, 5), ("NumberDress$DateDresser", T_DateDresser, 7), ("NumberDress$Digits", T_Digits, 4), ("NumberDress$Dresser", T_Dresser, 3), ("NumberDress$FractionDresser", T_FractionDresser, 5), ("NumberDress$Look", T_Look, 3), ("NumberDress$NumberDresser", T_NumberDresser, 3), ("NumberDress$Reader", T_Reader, 5), ("NumberDress$Section", T_Section, 15), ("NumberDress$Split", T_Split, 2), ("NumberDress$Value", T_Value, 6), ("NumberDressModel", T_M, 41)]
def zNs : List Cond := [(Jvm.Cond.methodLinkNest "NumberDress$Code" (28 : Nat) ({ cls := "NumberDress$Section", name := "<init>", desc := "()V" } : Jvm.MethodName) "NumberDress"), (Jvm.Cond.methodLinkNest "NumberDress" (22 : Nat) ({ cls := "NumberDress$Reader", name := "<init>", desc := "()V" } : Jvm.MethodName) "NumberDress"), (Jvm.Cond.methodLinkNest "NumberDress$Reader" (24 : Nat) ({ cls := "NumberDress$Section", name := "<init>", desc := "()V" } : Jvm.MethodName) "NumberDress"), (Jvm.Cond.methodLinkNest "NumberDress" (29 : Nat) ({ cls := "NumberDress$Value", name := "<init>", desc := "()V" } : Jvm.MethodName) "NumberDress"), (Jvm.Cond.methodLinkNest "NumberDress" (36 : Nat) ({ cls := "NumberDress$Dresser", name := "<init>", desc := "()V" } : Jvm.MethodName) "NumberDress"), (Jvm.Cond.methodLinkNest "NumberDress$Dresser" (11 : Nat) ({ cls := "NumberDress$NumberDresser", name := "<init>", desc := "()V" } : Jvm.MethodName) "NumberDress"), (Jvm.Cond.methodLinkNest "NumberDress$NumberDresser" (11 : Nat) ({ cls := "NumberDress$Digits", name := "<init>", desc := "()V" } : Jvm.MethodName) "NumberDress"), (Jvm.Cond.methodLinkNest "NumberDress$Dresser" (20 : Nat) ({ cls := "NumberDress$FractionDresser", name := "<init>", desc := "()V" } : Jvm.MethodName) "NumberDress"), (Jvm.Cond.methodLinkNest "NumberDress$FractionDresser" (11 : Nat) ({ cls := "NumberDress$Split", name := "<init>", desc := "()V" } : Jvm.MethodName) "NumberDress"), (Jvm.Cond.methodLinkNest "NumberDress$Split" (9 : Nat) ({ cls := "NumberDress$Digits", name := "<init>", desc := "()V" } : Jvm.MethodName) "NumberDress"), (Jvm.Cond.methodLinkNest "NumberDress$FractionDresser" (20 : Nat) ({ cls := "NumberDress$Digits", name := "<init>", desc := "()V" } : Jvm.MethodName) "NumberDress"), (Jvm.Cond.methodLinkNest "NumberDress$Dresser" (27 : Nat) ({ cls := "NumberDress$DateDresser", name := "<init>", desc := "()V" } : Jvm.MethodName) "NumberDress"), (Jvm.Cond.methodLinkNest "NumberDress$DateDresser" (11 : Nat) ({ cls := "NumberDress$Split", name := "<init>", desc := "()V" } : Jvm.MethodName) "NumberDress"), (Jvm.Cond.methodLinkNest "NumberDress" (43 : Nat) ({ cls := "NumberDress$Look", name := "<init>", desc := "()V" } : Jvm.MethodName) "NumberDress"), (Jvm.Cond.fieldLinkNest "NumberDress$Dresser" (117 : Nat) "NumberDress" "TENS" "[J" "NumberDress"), (Jvm.Cond.methodLinkNest "NumberDress$Dresser" (123 : Nat) ({ cls := "NumberDress", name := "digitsOf", desc := "(J)I" } : Jvm.MethodName) "NumberDress"), (Jvm.Cond.fieldLinkNest "NumberDress$Look" (38 : Nat) "NumberDress" "TENS" "[J" "NumberDress"), (Jvm.Cond.methodLinkNest "NumberDress$Look" (42 : Nat) ({ cls := "NumberDress", name := "tenTo", desc := "(I)J" } : Jvm.MethodName) "NumberDress"), (Jvm.Cond.methodLinkNest "NumberDress$Dresser" (148 : Nat) ({ cls := "NumberDress", name := "tenTo", desc := "(I)J" } : Jvm.MethodName) "NumberDress"), (Jvm.Cond.methodLinkNest "NumberDress$NumberDresser" (75 : Nat) ({ cls := "NumberDress", name := "digitsOf", desc := "(J)I" } : Jvm.MethodName) "NumberDress"), (Jvm.Cond.methodLinkNest "NumberDress$Digits" (29 : Nat) ({ cls := "NumberDress", name := "cutRounded", desc := "(JI)J" } : Jvm.MethodName) "NumberDress"), (Jvm.Cond.methodLinkNest "NumberDress$Digits" (17 : Nat) ({ cls := "NumberDress", name := "digitsOf", desc := "(J)I" } : Jvm.MethodName) "NumberDress"), (Jvm.Cond.fieldLinkNest "NumberDress$Digits" (43 : Nat) "NumberDress" "TENS" "[J" "NumberDress"), (Jvm.Cond.methodLinkNest "NumberDress$Digits" (47 : Nat) ({ cls := "NumberDress", name := "tenTo", desc := "(I)J" } : Jvm.MethodName) "NumberDress"), (Jvm.Cond.methodLinkNest "NumberDress$Split" (33 : Nat) ({ cls := "NumberDress", name := "tenTo", desc := "(I)J" } : Jvm.MethodName) "NumberDress"), (Jvm.Cond.methodLinkNest "NumberDress$Split" (39 : Nat) ({ cls := "NumberDress", name := "cutRounded", desc := "(JI)J" } : Jvm.MethodName) "NumberDress"), (Jvm.Cond.methodLinkNest "NumberDress$FractionDresser" (86 : Nat) ({ cls := "NumberDress", name := "tenTo", desc := "(I)J" } : Jvm.MethodName) "NumberDress"), (Jvm.Cond.methodLinkNest "NumberDress$FractionDresser" (127 : Nat) ({ cls := "NumberDress", name := "digitsOf", desc := "(J)I" } : Jvm.MethodName) "NumberDress"), (Jvm.Cond.methodLinkNest "NumberDress$DateDresser" (83 : Nat) ({ cls := "NumberDress", name := "tenTo", desc := "(I)J" } : Jvm.MethodName) "NumberDress")]
theorem zn_152 : (Jvm.Cond.methodLinkNest "NumberDress$Code" (28 : Nat) ({ cls := "NumberDress$Section", name := "<init>", desc := "()V" } : Jvm.MethodName) "NumberDress") ∈ zNs := List.mem_of_getElem? (i := 0) rfl
theorem zn_263 : (Jvm.Cond.methodLinkNest "NumberDress" (22 : Nat) ({ cls := "NumberDress$Reader", name := "<init>", desc := "()V" } : Jvm.MethodName) "NumberDress") ∈ zNs := List.mem_of_getElem? (i := 1) rfl
theorem zn_270 : (Jvm.Cond.methodLinkNest "NumberDress$Reader" (24 : Nat) ({ cls := "NumberDress$Section", name := "<init>", desc := "()V" } : Jvm.MethodName) "NumberDress") ∈ zNs := List.mem_of_getElem? (i := 2) rfl
theorem zn_289 : (Jvm.Cond.methodLinkNest "NumberDress" (29 : Nat) ({ cls := "NumberDress$Value", name := "<init>", desc := "()V" } : Jvm.MethodName) "NumberDress") ∈ zNs := List.mem_of_getElem? (i := 3) rfl
theorem zn_327 : (Jvm.Cond.methodLinkNest "NumberDress" (36 : Nat) ({ cls := "NumberDress$Dresser", name := "<init>", desc := "()V" } : Jvm.MethodName) "NumberDress") ∈ zNs := List.mem_of_getElem? (i := 4) rfl
theorem zn_333 : (Jvm.Cond.methodLinkNest "NumberDress$Dresser" (11 : Nat) ({ cls := "NumberDress$NumberDresser", name := "<init>", desc := "()V" } : Jvm.MethodName) "NumberDress") ∈ zNs := List.mem_of_getElem? (i := 5) rfl
theorem zn_339 : (Jvm.Cond.methodLinkNest "NumberDress$NumberDresser" (11 : Nat) ({ cls := "NumberDress$Digits", name := "<init>", desc := "()V" } : Jvm.MethodName) "NumberDress") ∈ zNs := List.mem_of_getElem? (i := 6) rfl
theorem zn_368 : (Jvm.Cond.methodLinkNest "NumberDress$Dresser" (20 : Nat) ({ cls := "NumberDress$FractionDresser", name := "<init>", desc := "()V" } : Jvm.MethodName) "NumberDress") ∈ zNs := List.mem_of_getElem? (i := 7) rfl
theorem zn_374 : (Jvm.Cond.methodLinkNest "NumberDress$FractionDresser" (11 : Nat) ({ cls := "NumberDress$Split", name := "<init>", desc := "()V" } : Jvm.MethodName) "NumberDress") ∈ zNs := List.mem_of_getElem? (i := 8) rfl
theorem zn_379 : (Jvm.Cond.methodLinkNest "NumberDress$Split" (9 : Nat) ({ cls := "NumberDress$Digits", name := "<init>", desc := "()V" } : Jvm.MethodName) "NumberDress") ∈ zNs := List.mem_of_getElem? (i := 9) rfl
theorem zn_392 : (Jvm.Cond.methodLinkNest "NumberDress$FractionDresser" (20 : Nat) ({ cls := "NumberDress$Digits", name := "<init>", desc := "()V" } : Jvm.MethodName) "NumberDress") ∈ zNs := List.mem_of_getElem? (i := 10) rfl
theorem zn_411 : (Jvm.Cond.methodLinkNest "NumberDress$Dresser" (27 : Nat) ({ cls := "NumberDress$DateDresser", name := "<init>", desc := "()V" } : Jvm.MethodName) "NumberDress") ∈ zNs := List.mem_of_getElem? (i := 11) rfl
theorem zn_416 : (Jvm.Cond.methodLinkNest "NumberDress$DateDresser" (11 : Nat) ({ cls := "NumberDress$Split", name := "<init>", desc := "()V" } : Jvm.MethodName) "NumberDress") ∈ zNs := List.mem_of_getElem? (i := 12) rfl
theorem zn_451 : (Jvm.Cond.methodLinkNest "NumberDress" (43 : Nat) ({ cls := "NumberDress$Look", name := "<init>", desc := "()V" } : Jvm.MethodName) "NumberDress") ∈ zNs := List.mem_of_getElem? (i := 13) rfl
theorem zn_875 : (Jvm.Cond.fieldLinkNest "NumberDress$Dresser" (117 : Nat) "NumberDress" "TENS" "[J" "NumberDress") ∈ zNs := List.mem_of_getElem? (i := 14) rfl
theorem zn_878 : (Jvm.Cond.methodLinkNest "NumberDress$Dresser" (123 : Nat) ({ cls := "NumberDress", name := "digitsOf", desc := "(J)I" } : Jvm.MethodName) "NumberDress") ∈ zNs := List.mem_of_getElem? (i := 15) rfl
theorem zn_897 : (Jvm.Cond.fieldLinkNest "NumberDress$Look" (38 : Nat) "NumberDress" "TENS" "[J" "NumberDress") ∈ zNs := List.mem_of_getElem? (i := 16) rfl
theorem zn_898 : (Jvm.Cond.methodLinkNest "NumberDress$Look" (42 : Nat) ({ cls := "NumberDress", name := "tenTo", desc := "(I)J" } : Jvm.MethodName) "NumberDress") ∈ zNs := List.mem_of_getElem? (i := 17) rfl
theorem zn_906 : (Jvm.Cond.methodLinkNest "NumberDress$Dresser" (148 : Nat) ({ cls := "NumberDress", name := "tenTo", desc := "(I)J" } : Jvm.MethodName) "NumberDress") ∈ zNs := List.mem_of_getElem? (i := 18) rfl
theorem zn_926 : (Jvm.Cond.methodLinkNest "NumberDress$NumberDresser" (75 : Nat) ({ cls := "NumberDress", name := "digitsOf", desc := "(J)I" } : Jvm.MethodName) "NumberDress") ∈ zNs := List.mem_of_getElem? (i := 19) rfl
theorem zn_934 : (Jvm.Cond.methodLinkNest "NumberDress$Digits" (29 : Nat) ({ cls := "NumberDress", name := "cutRounded", desc := "(JI)J" } : Jvm.MethodName) "NumberDress") ∈ zNs := List.mem_of_getElem? (i := 20) rfl
theorem zn_941 : (Jvm.Cond.methodLinkNest "NumberDress$Digits" (17 : Nat) ({ cls := "NumberDress", name := "digitsOf", desc := "(J)I" } : Jvm.MethodName) "NumberDress") ∈ zNs := List.mem_of_getElem? (i := 21) rfl
theorem zn_970 : (Jvm.Cond.fieldLinkNest "NumberDress$Digits" (43 : Nat) "NumberDress" "TENS" "[J" "NumberDress") ∈ zNs := List.mem_of_getElem? (i := 22) rfl
theorem zn_971 : (Jvm.Cond.methodLinkNest "NumberDress$Digits" (47 : Nat) ({ cls := "NumberDress", name := "tenTo", desc := "(I)J" } : Jvm.MethodName) "NumberDress") ∈ zNs := List.mem_of_getElem? (i := 23) rfl
theorem zn_1000 : (Jvm.Cond.methodLinkNest "NumberDress$Split" (33 : Nat) ({ cls := "NumberDress", name := "tenTo", desc := "(I)J" } : Jvm.MethodName) "NumberDress") ∈ zNs := List.mem_of_getElem? (i := 24) rfl
theorem zn_1001 : (Jvm.Cond.methodLinkNest "NumberDress$Split" (39 : Nat) ({ cls := "NumberDress", name := "cutRounded", desc := "(JI)J" } : Jvm.MethodName) "NumberDress") ∈ zNs := List.mem_of_getElem? (i := 25) rfl
theorem zn_1013 : (Jvm.Cond.methodLinkNest "NumberDress$FractionDresser" (86 : Nat) ({ cls := "NumberDress", name := "tenTo", desc := "(I)J" } : Jvm.MethodName) "NumberDress") ∈ zNs := List.mem_of_getElem? (i := 26) rfl
theorem zn_1035 : (Jvm.Cond.methodLinkNest "NumberDress$FractionDresser" (127 : Nat) ({ cls := "NumberDress", name := "digitsOf", desc := "(J)I" } : Jvm.MethodName) "NumberDress") ∈ zNs := List.mem_of_getElem? (i := 27) rfl
theorem zn_1052 : (Jvm.Cond.methodLinkNest "NumberDress$DateDresser" (83 : Nat) ({ cls := "NumberDress", name := "tenTo", desc := "(I)J" } : Jvm.MethodName) "NumberDress") ∈ zNs := List.mem_of_getElem? (i := 28) rfl
abbrev nZS : Nat := 36
def zSt : List (String × Nat × String × List Int32) := [("NumberDress$Reader", 271, "[black]", [91, 98, 108, 97, 99, 107, 93]), ("NumberDress$Reader", 273, "[blue]", [91, 98, 108, 117, 101, 93]), ("NumberDress$Reader", 275, "[cyan]", [91, 99, 121, 97, 110, 93]), ("NumberDress$Reader", 277, "[green]", [91, 103, 114, 101, 101, 110, 93]), ("NumberDress$Reader", 279, "[magenta]", [91, 109, 97, 103, 101, 110, 116, 97, 93]), ("NumberDress$Reader", 281, "[red]", [91, 114, 101, 100, 93]), ("NumberDress$Reader", 283, "[white]", [91, 119, 104, 105, 116, 101, 93]), ("NumberDress$Reader", 285, "[yellow]", [91, 121, 101, 108, 108, 111, 119, 93]), ("NumberDress$Reader", 266, " $-+():!^&'~{}<>=", [32, 36, 45, 43, 40, 41, 58, 33, 94, 38, 39, 126, 123, 125, 60, 62, 61]), ("NumberDress$Reader", 57, "general", [103, 101, 110, 101, 114, 97, 108]), ("NumberDress$Reader", 262, "am/pm", [97, 109, 47, 112, 109]), ("NumberDress$Reader", 264, "a/p", [97, 47, 112]), ("NumberDress$Dresser", 131, "0.", [48, 46]), ("NumberDress$DateDresser", 168, "January", [74, 97, 110, 117, 97, 114, 121]), ("NumberDress$DateDresser", 170, "February", [70, 101, 98, 114, 117, 97, 114, 121]), ("NumberDress$DateDresser", 172, "March", [77, 97, 114, 99, 104]), ("NumberDress$DateDresser", 174, "April", [65, 112, 114, 105, 108]), ("NumberDress$DateDresser", 176, "May", [77, 97, 121]), ("NumberDress$DateDresser", 178, "June", [74, 117, 110, 101]), ("NumberDress$DateDresser", 180, "July", [74, 117, 108, 121]), ("NumberDress$DateDresser", 182, "August", [65, 117, 103, 117, 115, 116]), ("NumberDress$DateDresser", 184, "September", [83, 101, 112, 116, 101, 109, 98, 101, 114]), ("NumberDress$DateDresser", 186, "October", [79, 99, 116, 111, 98, 101, 114]), ("NumberDress$DateDresser", 188, "November", [78, 111, 118, 101, 109, 98, 101, 114]), ("NumberDress$DateDresser", 190, "December", [68, 101, 99, 101, 109, 98, 101, 114]), ("NumberDress$DateDresser", 192, "Sunday", [83, 117, 110, 100, 97, 121]), ("NumberDress$DateDresser", 194, "Monday", [77, 111, 110, 100, 97, 121]), ("NumberDress$DateDresser", 196, "Tuesday", [84, 117, 101, 115, 100, 97, 121]), ("NumberDress$DateDresser", 198, "Wednesday", [87, 101, 100, 110, 101, 115, 100, 97, 121]), ("NumberDress$DateDresser", 200, "Thursday", [84, 104, 117, 114, 115, 100, 97, 121]), ("NumberDress$DateDresser", 202, "Friday", [70, 114, 105, 100, 97, 121]), ("NumberDress$DateDresser", 204, "Saturday", [83, 97, 116, 117, 114, 100, 97, 121]), ("NumberDress", 50, "a byte is not 32 .. 126", [97, 32, 98, 121, 116, 101, 32, 105, 115, 32, 110, 111, 116, 32, 51, 50, 32, 46, 46, 32, 49, 50, 54]), ("NumberDress", 61, "more than 64 characters", [109, 111, 114, 101, 32, 116, 104, 97, 110, 32, 54, 52, 32, 99, 104, 97, 114, 97, 99, 116, 101, 114, 115]), ("NumberDress", 78, "high, low or scale is out of its range", [104, 105, 103, 104, 44, 32, 108, 111, 119, 32, 111, 114, 32, 115, 99, 97, 108, 101, 32, 105, 115, 32, 111, 117, 116, 32, 111, 102, 32, 105, 116, 115, 32, 114, 97, 110, 103, 101]), ("NumberDress", 101, "what is not 0 .. 5", [119, 104, 97, 116, 32, 105, 115, 32, 110, 111, 116, 32, 48, 32, 46, 46, 32, 53])]
def zIsNest : Cond → Bool
  | .fieldLinkNest .. => true
  | .methodLinkNest .. => true
  | _ => false
theorem zNs_nest : ∀ w ∈ zNs, zIsNest w = true := by decide +kernel
theorem zw_0 : (Cond.selects "NumberDress$Reader" ⟨"NumberDress$Reader", "sectionEnd", "(I)I"⟩ ⟨"NumberDress$Reader", "sectionEnd", "(I)I"⟩) ∈ zT := zw_pr (q := (⟨"NumberDress$Reader", "sectionEnd", "(I)I"⟩, 5)) (zp_lw_privs_1 _ (List.mem_of_getElem? (i := 0) rfl)) rfl
theorem zw_1 : (Cond.selects "NumberDress$Reader" ⟨"NumberDress$Reader", "sign", "(I)C"⟩ ⟨"NumberDress$Reader", "sign", "(I)C"⟩) ∈ zT := zw_pr (q := (⟨"NumberDress$Reader", "sign", "(I)C"⟩, 5)) (zp_lw_privs_1 _ (List.mem_of_getElem? (i := 1) rfl)) rfl
theorem zw_2 : (Cond.selects "NumberDress$Reader" ⟨"NumberDress$Reader", "commonLength", "(I)I"⟩ ⟨"NumberDress$Reader", "commonLength", "(I)I"⟩) ∈ zT := zw_pr (q := (⟨"NumberDress$Reader", "commonLength", "(I)I"⟩, 5)) (zp_lw_privs_1 _ (List.mem_of_getElem? (i := 2) rfl)) rfl
theorem zw_3 : (Cond.selects "NumberDress$Reader" ⟨"NumberDress$Reader", "quotesLength", "(I)I"⟩ ⟨"NumberDress$Reader", "quotesLength", "(I)I"⟩) ∈ zT := zw_pr (q := (⟨"NumberDress$Reader", "quotesLength", "(I)I"⟩, 5)) (zp_lw_privs_1 _ (List.mem_of_getElem? (i := 3) rfl)) rfl
theorem zw_4 : (Cond.selects "NumberDress$Reader" ⟨"NumberDress$Reader", "colourLength", "(I)I"⟩ ⟨"NumberDress$Reader", "colourLength", "(I)I"⟩) ∈ zT := zw_pr (q := (⟨"NumberDress$Reader", "colourLength", "(I)I"⟩, 5)) (zp_lw_privs_1 _ (List.mem_of_getElem? (i := 4) rfl)) rfl
theorem zw_5 : (Cond.selects "NumberDress$Reader" ⟨"NumberDress$Reader", "goesOn", "(ILjava/lang/String;)Z"⟩ ⟨"NumberDress$Reader", "goesOn", "(ILjava/lang/String;)Z"⟩) ∈ zT := zw_pr (q := (⟨"NumberDress$Reader", "goesOn", "(ILjava/lang/String;)Z"⟩, 5)) (zp_lw_privs_1 _ (List.mem_of_getElem? (i := 5) rfl)) rfl
theorem zw_6 : (Cond.selects "NumberDress$Reader" ⟨"NumberDress$Reader", "small", "(I)C"⟩ ⟨"NumberDress$Reader", "small", "(I)C"⟩) ∈ zT := zw_pr (q := (⟨"NumberDress$Reader", "small", "(I)C"⟩, 5)) (zp_lw_privs_1 _ (List.mem_of_getElem? (i := 6) rfl)) rfl
theorem zw_7 : (Cond.selects "NumberDress$Reader" ⟨"NumberDress$Reader", "readSection", "(III)I"⟩ ⟨"NumberDress$Reader", "readSection", "(III)I"⟩) ∈ zT := zw_pr (q := (⟨"NumberDress$Reader", "readSection", "(III)I"⟩, 5)) (zp_lw_privs_1 _ (List.mem_of_getElem? (i := 7) rfl)) rfl
theorem zw_8 : (Cond.selects "NumberDress$Reader" ⟨"NumberDress$Reader", "findKind", "(II)V"⟩ ⟨"NumberDress$Reader", "findKind", "(II)V"⟩) ∈ zT := zw_pr (q := (⟨"NumberDress$Reader", "findKind", "(II)V"⟩, 5)) (zp_lw_privs_1 _ (List.mem_of_getElem? (i := 8) rfl)) rfl
theorem zw_9 : (Cond.selects "NumberDress$Reader" ⟨"NumberDress$Reader", "kindMadeAt", "(I)I"⟩ ⟨"NumberDress$Reader", "kindMadeAt", "(I)I"⟩) ∈ zT := zw_pr (q := (⟨"NumberDress$Reader", "kindMadeAt", "(I)I"⟩, 5)) (zp_lw_privs_1 _ (List.mem_of_getElem? (i := 9) rfl)) rfl
theorem zw_10 : (Cond.selects "NumberDress$Reader" ⟨"NumberDress$Reader", "bracketRow", "(I)I"⟩ ⟨"NumberDress$Reader", "bracketRow", "(I)I"⟩) ∈ zT := zw_pr (q := (⟨"NumberDress$Reader", "bracketRow", "(I)I"⟩, 5)) (zp_lw_privs_1 _ (List.mem_of_getElem? (i := 10) rfl)) rfl
theorem zw_11 : (Cond.selects "NumberDress$Reader" ⟨"NumberDress$Reader", "rowLength", "(I)I"⟩ ⟨"NumberDress$Reader", "rowLength", "(I)I"⟩) ∈ zT := zw_pr (q := (⟨"NumberDress$Reader", "rowLength", "(I)I"⟩, 5)) (zp_lw_privs_1 _ (List.mem_of_getElem? (i := 11) rfl)) rfl
theorem zw_12 : (Cond.selects "NumberDress$Reader" ⟨"NumberDress$Reader", "halfDayLength", "(I)I"⟩ ⟨"NumberDress$Reader", "halfDayLength", "(I)I"⟩) ∈ zT := zw_pr (q := (⟨"NumberDress$Reader", "halfDayLength", "(I)I"⟩, 5)) (zp_lw_privs_1 _ (List.mem_of_getElem? (i := 12) rfl)) rfl
theorem zw_13 : (Cond.selects "NumberDress$Reader" ⟨"NumberDress$Reader", "readItem", "(I)I"⟩ ⟨"NumberDress$Reader", "readItem", "(I)I"⟩) ∈ zT := zw_pr (q := (⟨"NumberDress$Reader", "readItem", "(I)I"⟩, 5)) (zp_lw_privs_1 _ (List.mem_of_getElem? (i := 13) rfl)) rfl
theorem zw_14 : (Cond.selects "NumberDress$Reader" ⟨"NumberDress$Reader", "addCommon", "(II)V"⟩ ⟨"NumberDress$Reader", "addCommon", "(II)V"⟩) ∈ zT := zw_pr (q := (⟨"NumberDress$Reader", "addCommon", "(II)V"⟩, 5)) (zp_lw_privs_1 _ (List.mem_of_getElem? (i := 14) rfl)) rfl
theorem zw_15 : (Cond.selects "NumberDress$Reader" ⟨"NumberDress$Reader", "readNumberItem", "(I)I"⟩ ⟨"NumberDress$Reader", "readNumberItem", "(I)I"⟩) ∈ zT := zw_pr (q := (⟨"NumberDress$Reader", "readNumberItem", "(I)I"⟩, 5)) (zp_lw_privs_1 _ (List.mem_of_getElem? (i := 15) rfl)) rfl
theorem zw_16 : (Cond.selects "NumberDress$Reader" ⟨"NumberDress$Reader", "readPlace", "(C)I"⟩ ⟨"NumberDress$Reader", "readPlace", "(C)I"⟩) ∈ zT := zw_pr (q := (⟨"NumberDress$Reader", "readPlace", "(C)I"⟩, 5)) (zp_lw_privs_2 _ (List.mem_of_getElem? (i := 0) rfl)) rfl
theorem zw_17 : (Cond.selects "NumberDress$Reader" ⟨"NumberDress$Reader", "addOne", "(II)I"⟩ ⟨"NumberDress$Reader", "addOne", "(II)I"⟩) ∈ zT := zw_pr (q := (⟨"NumberDress$Reader", "addOne", "(II)I"⟩, 5)) (zp_lw_privs_2 _ (List.mem_of_getElem? (i := 1) rfl)) rfl
theorem zw_18 : (Cond.selects "NumberDress$Reader" ⟨"NumberDress$Reader", "readPoint", "()I"⟩ ⟨"NumberDress$Reader", "readPoint", "()I"⟩) ∈ zT := zw_pr (q := (⟨"NumberDress$Reader", "readPoint", "()I"⟩, 5)) (zp_lw_privs_2 _ (List.mem_of_getElem? (i := 2) rfl)) rfl
theorem zw_19 : (Cond.selects "NumberDress$Reader" ⟨"NumberDress$Reader", "readComma", "(I)I"⟩ ⟨"NumberDress$Reader", "readComma", "(I)I"⟩) ∈ zT := zw_pr (q := (⟨"NumberDress$Reader", "readComma", "(I)I"⟩, 5)) (zp_lw_privs_2 _ (List.mem_of_getElem? (i := 3) rfl)) rfl
theorem zw_20 : (Cond.selects "NumberDress$Reader" ⟨"NumberDress$Reader", "kindBefore", "()I"⟩ ⟨"NumberDress$Reader", "kindBefore", "()I"⟩) ∈ zT := zw_pr (q := (⟨"NumberDress$Reader", "kindBefore", "()I"⟩, 5)) (zp_lw_privs_2 _ (List.mem_of_getElem? (i := 4) rfl)) rfl
theorem zw_21 : (Cond.selects "NumberDress$Reader" ⟨"NumberDress$Reader", "readPower", "(I)I"⟩ ⟨"NumberDress$Reader", "readPower", "(I)I"⟩) ∈ zT := zw_pr (q := (⟨"NumberDress$Reader", "readPower", "(I)I"⟩, 5)) (zp_lw_privs_2 _ (List.mem_of_getElem? (i := 5) rfl)) rfl
theorem zw_22 : (Cond.selects "NumberDress$Reader" ⟨"NumberDress$Reader", "placesFrom", "(I)I"⟩ ⟨"NumberDress$Reader", "placesFrom", "(I)I"⟩) ∈ zT := zw_pr (q := (⟨"NumberDress$Reader", "placesFrom", "(I)I"⟩, 5)) (zp_lw_privs_2 _ (List.mem_of_getElem? (i := 6) rfl)) rfl
theorem zw_23 : (Cond.selects "NumberDress$Reader" ⟨"NumberDress$Reader", "readFraction", "(I)I"⟩ ⟨"NumberDress$Reader", "readFraction", "(I)I"⟩) ∈ zT := zw_pr (q := (⟨"NumberDress$Reader", "readFraction", "(I)I"⟩, 5)) (zp_lw_privs_2 _ (List.mem_of_getElem? (i := 7) rfl)) rfl
theorem zw_24 : (Cond.selects "NumberDress$Reader" ⟨"NumberDress$Reader", "digitsFrom", "(I)I"⟩ ⟨"NumberDress$Reader", "digitsFrom", "(I)I"⟩) ∈ zT := zw_pr (q := (⟨"NumberDress$Reader", "digitsFrom", "(I)I"⟩, 5)) (zp_lw_privs_2 _ (List.mem_of_getElem? (i := 8) rfl)) rfl
theorem zw_25 : (Cond.selects "NumberDress$Reader" ⟨"NumberDress$Reader", "makeNumerator", "()V"⟩ ⟨"NumberDress$Reader", "makeNumerator", "()V"⟩) ∈ zT := zw_pr (q := (⟨"NumberDress$Reader", "makeNumerator", "()V"⟩, 5)) (zp_lw_privs_2 _ (List.mem_of_getElem? (i := 9) rfl)) rfl
theorem zw_26 : (Cond.selects "NumberDress$Reader" ⟨"NumberDress$Reader", "readDateItem", "(I)I"⟩ ⟨"NumberDress$Reader", "readDateItem", "(I)I"⟩) ∈ zT := zw_pr (q := (⟨"NumberDress$Reader", "readDateItem", "(I)I"⟩, 5)) (zp_lw_privs_2 _ (List.mem_of_getElem? (i := 10) rfl)) rfl
theorem zw_27 : (Cond.selects "NumberDress$Reader" ⟨"NumberDress$Reader", "readRow", "(IC)I"⟩ ⟨"NumberDress$Reader", "readRow", "(IC)I"⟩) ∈ zT := zw_pr (q := (⟨"NumberDress$Reader", "readRow", "(IC)I"⟩, 5)) (zp_lw_privs_2 _ (List.mem_of_getElem? (i := 11) rfl)) rfl
theorem zw_28 : (Cond.selects "NumberDress$Reader" ⟨"NumberDress$Reader", "addRow", "(II)I"⟩ ⟨"NumberDress$Reader", "addRow", "(II)I"⟩) ∈ zT := zw_pr (q := (⟨"NumberDress$Reader", "addRow", "(II)I"⟩, 5)) (zp_lw_privs_2 _ (List.mem_of_getElem? (i := 12) rfl)) rfl
theorem zw_29 : (Cond.selects "NumberDress$Reader" ⟨"NumberDress$Reader", "readInAll", "(II)I"⟩ ⟨"NumberDress$Reader", "readInAll", "(II)I"⟩) ∈ zT := zw_pr (q := (⟨"NumberDress$Reader", "readInAll", "(II)I"⟩, 5)) (zp_lw_privs_2 _ (List.mem_of_getElem? (i := 13) rfl)) rfl
theorem zw_30 : (Cond.selects "NumberDress$Reader" ⟨"NumberDress$Reader", "readHalfDay", "(I)I"⟩ ⟨"NumberDress$Reader", "readHalfDay", "(I)I"⟩) ∈ zT := zw_pr (q := (⟨"NumberDress$Reader", "readHalfDay", "(I)I"⟩, 5)) (zp_lw_privs_2 _ (List.mem_of_getElem? (i := 14) rfl)) rfl
theorem zw_31 : (Cond.selects "NumberDress$Reader" ⟨"NumberDress$Reader", "readParts", "(I)I"⟩ ⟨"NumberDress$Reader", "readParts", "(I)I"⟩) ∈ zT := zw_pr (q := (⟨"NumberDress$Reader", "readParts", "(I)I"⟩, 5)) (zp_lw_privs_2 _ (List.mem_of_getElem? (i := 15) rfl)) rfl
theorem zw_32 : (Cond.selects "NumberDress$Reader" ⟨"NumberDress$Reader", "readSign", "(I)I"⟩ ⟨"NumberDress$Reader", "readSign", "(I)I"⟩) ∈ zT := zw_pr (q := (⟨"NumberDress$Reader", "readSign", "(I)I"⟩, 5)) (zp_lw_privs_3 _ (List.mem_of_getElem? (i := 0) rfl)) rfl
theorem zw_33 : (Cond.selects "NumberDress$Reader" ⟨"NumberDress$Reader", "findMinutes", "()V"⟩ ⟨"NumberDress$Reader", "findMinutes", "()V"⟩) ∈ zT := zw_pr (q := (⟨"NumberDress$Reader", "findMinutes", "()V"⟩, 5)) (zp_lw_privs_3 _ (List.mem_of_getElem? (i := 1) rfl)) rfl
theorem zw_34 : (Cond.selects "NumberDress$Reader" ⟨"NumberDress$Reader", "isBehindHours", "(I)Z"⟩ ⟨"NumberDress$Reader", "isBehindHours", "(I)Z"⟩) ∈ zT := zw_pr (q := (⟨"NumberDress$Reader", "isBehindHours", "(I)Z"⟩, 5)) (zp_lw_privs_3 _ (List.mem_of_getElem? (i := 2) rfl)) rfl
theorem zw_35 : (Cond.selects "NumberDress$Reader" ⟨"NumberDress$Reader", "isBeforeSeconds", "(I)Z"⟩ ⟨"NumberDress$Reader", "isBeforeSeconds", "(I)Z"⟩) ∈ zT := zw_pr (q := (⟨"NumberDress$Reader", "isBeforeSeconds", "(I)Z"⟩, 5)) (zp_lw_privs_3 _ (List.mem_of_getElem? (i := 3) rfl)) rfl
theorem zw_36 : (Cond.selects "NumberDress$Code" ⟨"NumberDress$Code", "sectionForText", "()I"⟩ ⟨"NumberDress$Code", "sectionForText", "()I"⟩) ∈ zT := zw_pr (q := (⟨"NumberDress$Code", "sectionForText", "()I"⟩, 5)) (zp_lw_privs_3 _ (List.mem_of_getElem? (i := 4) rfl)) rfl
theorem zw_37 : (Cond.selects "NumberDress$Dresser" ⟨"NumberDress$Dresser", "putText", "(LNumberDress$Value;LNumberDress$Look;)V"⟩ ⟨"NumberDress$Dresser", "putText", "(LNumberDress$Value;LNumberDress$Look;)V"⟩) ∈ zT := zw_pr (q := (⟨"NumberDress$Dresser", "putText", "(LNumberDress$Value;LNumberDress$Look;)V"⟩, 3)) (zp_lw_privs_3 _ (List.mem_of_getElem? (i := 5) rfl)) rfl
theorem zw_38 : (Cond.selects "NumberDress$Dresser" ⟨"NumberDress$Dresser", "dressGeneral", "(LNumberDress$Value;ZLNumberDress$Look;)V"⟩ ⟨"NumberDress$Dresser", "dressGeneral", "(LNumberDress$Value;ZLNumberDress$Look;)V"⟩) ∈ zT := zw_pr (q := (⟨"NumberDress$Dresser", "dressGeneral", "(LNumberDress$Value;ZLNumberDress$Look;)V"⟩, 3)) (zp_lw_privs_3 _ (List.mem_of_getElem? (i := 6) rfl)) rfl
theorem zw_39 : (Cond.selects "NumberDress$Dresser" ⟨"NumberDress$Dresser", "putWithPower", "(JIILNumberDress$Look;)V"⟩ ⟨"NumberDress$Dresser", "putWithPower", "(JIILNumberDress$Look;)V"⟩) ∈ zT := zw_pr (q := (⟨"NumberDress$Dresser", "putWithPower", "(JIILNumberDress$Look;)V"⟩, 3)) (zp_lw_privs_3 _ (List.mem_of_getElem? (i := 7) rfl)) rfl
theorem zw_40 : (Cond.selects "NumberDress$Dresser" ⟨"NumberDress$Dresser", "putWithPoint", "(JIILNumberDress$Look;)V"⟩ ⟨"NumberDress$Dresser", "putWithPoint", "(JIILNumberDress$Look;)V"⟩) ∈ zT := zw_pr (q := (⟨"NumberDress$Dresser", "putWithPoint", "(JIILNumberDress$Look;)V"⟩, 3)) (zp_lw_privs_3 _ (List.mem_of_getElem? (i := 8) rfl)) rfl
theorem zw_41 : (Cond.selects "NumberDress$NumberDresser" ⟨"NumberDress$NumberDresser", "takeWithPower", "(LNumberDress$Section;LNumberDress$Value;)V"⟩ ⟨"NumberDress$NumberDresser", "takeWithPower", "(LNumberDress$Section;LNumberDress$Value;)V"⟩) ∈ zT := zw_pr (q := (⟨"NumberDress$NumberDresser", "takeWithPower", "(LNumberDress$Section;LNumberDress$Value;)V"⟩, 3)) (zp_lw_privs_3 _ (List.mem_of_getElem? (i := 9) rfl)) rfl
theorem zw_42 : (Cond.selects "NumberDress$NumberDresser" ⟨"NumberDress$NumberDresser", "putItems", "(LNumberDress$Code;LNumberDress$Section;LNumberDress$Look;)V"⟩ ⟨"NumberDress$NumberDresser", "putItems", "(LNumberDress$Code;LNumberDress$Section;LNumberDress$Look;)V"⟩) ∈ zT := zw_pr (q := (⟨"NumberDress$NumberDresser", "putItems", "(LNumberDress$Code;LNumberDress$Section;LNumberDress$Look;)V"⟩, 3)) (zp_lw_privs_3 _ (List.mem_of_getElem? (i := 10) rfl)) rfl
theorem zw_43 : (Cond.selects "NumberDress$NumberDresser" ⟨"NumberDress$NumberDresser", "putPoint", "(LNumberDress$Section;LNumberDress$Look;)V"⟩ ⟨"NumberDress$NumberDresser", "putPoint", "(LNumberDress$Section;LNumberDress$Look;)V"⟩) ∈ zT := zw_pr (q := (⟨"NumberDress$NumberDresser", "putPoint", "(LNumberDress$Section;LNumberDress$Look;)V"⟩, 3)) (zp_lw_privs_3 _ (List.mem_of_getElem? (i := 11) rfl)) rfl
theorem zw_44 : (Cond.selects "NumberDress$NumberDresser" ⟨"NumberDress$NumberDresser", "putDecimal", "(IILNumberDress$Look;)V"⟩ ⟨"NumberDress$NumberDresser", "putDecimal", "(IILNumberDress$Look;)V"⟩) ∈ zT := zw_pr (q := (⟨"NumberDress$NumberDresser", "putDecimal", "(IILNumberDress$Look;)V"⟩, 3)) (zp_lw_privs_3 _ (List.mem_of_getElem? (i := 12) rfl)) rfl
theorem zw_45 : (Cond.selects "NumberDress$NumberDresser" ⟨"NumberDress$NumberDresser", "putPowerSign", "(ILNumberDress$Look;)V"⟩ ⟨"NumberDress$NumberDresser", "putPowerSign", "(ILNumberDress$Look;)V"⟩) ∈ zT := zw_pr (q := (⟨"NumberDress$NumberDresser", "putPowerSign", "(ILNumberDress$Look;)V"⟩, 3)) (zp_lw_privs_3 _ (List.mem_of_getElem? (i := 13) rfl)) rfl
theorem zw_46 : (Cond.selects "NumberDress$FractionDresser" ⟨"NumberDress$FractionDresser", "findNearest", "(LNumberDress$Section;)V"⟩ ⟨"NumberDress$FractionDresser", "findNearest", "(LNumberDress$Section;)V"⟩) ∈ zT := zw_pr (q := (⟨"NumberDress$FractionDresser", "findNearest", "(LNumberDress$Section;)V"⟩, 5)) (zp_lw_privs_3 _ (List.mem_of_getElem? (i := 14) rfl)) rfl
theorem zw_47 : (Cond.selects "NumberDress$FractionDresser" ⟨"NumberDress$FractionDresser", "tryUnder", "(J)V"⟩ ⟨"NumberDress$FractionDresser", "tryUnder", "(J)V"⟩) ∈ zT := zw_pr (q := (⟨"NumberDress$FractionDresser", "tryUnder", "(J)V"⟩, 5)) (zp_lw_privs_3 _ (List.mem_of_getElem? (i := 15) rfl)) rfl
theorem zw_48 : (Cond.selects "NumberDress$FractionDresser" ⟨"NumberDress$FractionDresser", "putItems", "(LNumberDress$Code;LNumberDress$Section;LNumberDress$Look;)V"⟩ ⟨"NumberDress$FractionDresser", "putItems", "(LNumberDress$Code;LNumberDress$Section;LNumberDress$Look;)V"⟩) ∈ zT := zw_pr (q := (⟨"NumberDress$FractionDresser", "putItems", "(LNumberDress$Code;LNumberDress$Section;LNumberDress$Look;)V"⟩, 5)) (zp_lw_privs_4 _ (List.mem_of_getElem? (i := 0) rfl)) rfl
theorem zw_49 : (Cond.selects "NumberDress$FractionDresser" ⟨"NumberDress$FractionDresser", "putUnder", "(LNumberDress$Code;LNumberDress$Section;ILNumberDress$Look;)V"⟩ ⟨"NumberDress$FractionDresser", "putUnder", "(LNumberDress$Code;LNumberDress$Section;ILNumberDress$Look;)V"⟩) ∈ zT := zw_pr (q := (⟨"NumberDress$FractionDresser", "putUnder", "(LNumberDress$Code;LNumberDress$Section;ILNumberDress$Look;)V"⟩, 5)) (zp_lw_privs_4 _ (List.mem_of_getElem? (i := 1) rfl)) rfl
theorem zw_50 : (Cond.selects "NumberDress$FractionDresser" ⟨"NumberDress$FractionDresser", "putLacking", "(LNumberDress$Code;IIILNumberDress$Look;)V"⟩ ⟨"NumberDress$FractionDresser", "putLacking", "(LNumberDress$Code;IIILNumberDress$Look;)V"⟩) ∈ zT := zw_pr (q := (⟨"NumberDress$FractionDresser", "putLacking", "(LNumberDress$Code;IIILNumberDress$Look;)V"⟩, 5)) (zp_lw_privs_4 _ (List.mem_of_getElem? (i := 2) rfl)) rfl
theorem zw_51 : (Cond.selects "NumberDress$DateDresser" ⟨"NumberDress$DateDresser", "takeTime", "(I)V"⟩ ⟨"NumberDress$DateDresser", "takeTime", "(I)V"⟩) ∈ zT := zw_pr (q := (⟨"NumberDress$DateDresser", "takeTime", "(I)V"⟩, 7)) (zp_lw_privs_4 _ (List.mem_of_getElem? (i := 3) rfl)) rfl
theorem zw_52 : (Cond.selects "NumberDress$DateDresser" ⟨"NumberDress$DateDresser", "partsOfDay", "(J)J"⟩ ⟨"NumberDress$DateDresser", "partsOfDay", "(J)J"⟩) ∈ zT := zw_pr (q := (⟨"NumberDress$DateDresser", "partsOfDay", "(J)J"⟩, 7)) (zp_lw_privs_4 _ (List.mem_of_getElem? (i := 4) rfl)) rfl
theorem zw_53 : (Cond.selects "NumberDress$DateDresser" ⟨"NumberDress$DateDresser", "takeDay", "(I)V"⟩ ⟨"NumberDress$DateDresser", "takeDay", "(I)V"⟩) ∈ zT := zw_pr (q := (⟨"NumberDress$DateDresser", "takeDay", "(I)V"⟩, 7)) (zp_lw_privs_4 _ (List.mem_of_getElem? (i := 5) rfl)) rfl
theorem zw_54 : (Cond.selects "NumberDress$DateDresser" ⟨"NumberDress$DateDresser", "takeCalendarDay", "(I)V"⟩ ⟨"NumberDress$DateDresser", "takeCalendarDay", "(I)V"⟩) ∈ zT := zw_pr (q := (⟨"NumberDress$DateDresser", "takeCalendarDay", "(I)V"⟩, 7)) (zp_lw_privs_4 _ (List.mem_of_getElem? (i := 6) rfl)) rfl
theorem zw_55 : (Cond.selects "NumberDress$DateDresser" ⟨"NumberDress$DateDresser", "putTime", "(IIZLNumberDress$Look;)V"⟩ ⟨"NumberDress$DateDresser", "putTime", "(IIZLNumberDress$Look;)V"⟩) ∈ zT := zw_pr (q := (⟨"NumberDress$DateDresser", "putTime", "(IIZLNumberDress$Look;)V"⟩, 7)) (zp_lw_privs_4 _ (List.mem_of_getElem? (i := 7) rfl)) rfl
theorem zw_56 : (Cond.selects "NumberDress$DateDresser" ⟨"NumberDress$DateDresser", "putDay", "(IILNumberDress$Look;)V"⟩ ⟨"NumberDress$DateDresser", "putDay", "(IILNumberDress$Look;)V"⟩) ∈ zT := zw_pr (q := (⟨"NumberDress$DateDresser", "putDay", "(IILNumberDress$Look;)V"⟩, 7)) (zp_lw_privs_4 _ (List.mem_of_getElem? (i := 8) rfl)) rfl
theorem zw_57 : (Cond.selects "NumberDress$DateDresser" ⟨"NumberDress$DateDresser", "putName", "(Ljava/lang/String;ILNumberDress$Look;)V"⟩ ⟨"NumberDress$DateDresser", "putName", "(Ljava/lang/String;ILNumberDress$Look;)V"⟩) ∈ zT := zw_pr (q := (⟨"NumberDress$DateDresser", "putName", "(Ljava/lang/String;ILNumberDress$Look;)V"⟩, 7)) (zp_lw_privs_4 _ (List.mem_of_getElem? (i := 9) rfl)) rfl
theorem zw_58 : (Cond.selects "NumberDress$Dresser" ⟨"NumberDress$Dresser", "dressWords", "(LNumberDress$Code;LNumberDress$Section;LNumberDress$Value;LNumberDress$Look;)V"⟩ ⟨"NumberDress$Dresser", "dressWords", "(LNumberDress$Code;LNumberDress$Section;LNumberDress$Value;LNumberDress$Look;)V"⟩) ∈ zT := zw_pr (q := (⟨"NumberDress$Dresser", "dressWords", "(LNumberDress$Code;LNumberDress$Section;LNumberDress$Value;LNumberDress$Look;)V"⟩, 3)) (zp_lw_privs_4 _ (List.mem_of_getElem? (i := 10) rfl)) rfl
theorem zw_60 : (Cond.selects "NumberDressModel" ⟨"NumberDressModel", "endOf", "(I)I"⟩ ⟨"NumberDressModel", "endOf", "(I)I"⟩) ∈ zT := zw_pr (q := (⟨"NumberDressModel", "endOf", "(I)I"⟩, 41)) (zp_lw_privs_4 _ (List.mem_of_getElem? (i := 12) rfl)) rfl
theorem zw_61 : (Cond.selects "NumberDressModel" ⟨"NumberDressModel", "quotesEnd", "(I)I"⟩ ⟨"NumberDressModel", "quotesEnd", "(I)I"⟩) ∈ zT := zw_pr (q := (⟨"NumberDressModel", "quotesEnd", "(I)I"⟩, 41)) (zp_lw_privs_4 _ (List.mem_of_getElem? (i := 13) rfl)) rfl
theorem zw_62 : (Cond.selects "NumberDressModel" ⟨"NumberDressModel", "isPair", "(I)Z"⟩ ⟨"NumberDressModel", "isPair", "(I)Z"⟩) ∈ zT := zw_pr (q := (⟨"NumberDressModel", "isPair", "(I)Z"⟩, 41)) (zp_lw_privs_4 _ (List.mem_of_getElem? (i := 14) rfl)) rfl
theorem zw_63 : (Cond.selects "NumberDressModel" ⟨"NumberDressModel", "ch", "(I)I"⟩ ⟨"NumberDressModel", "ch", "(I)I"⟩) ∈ zT := zw_pr (q := (⟨"NumberDressModel", "ch", "(I)I"⟩, 41)) (zp_lw_privs_4 _ (List.mem_of_getElem? (i := 15) rfl)) rfl
theorem zw_64 : (Cond.selects "NumberDressModel" ⟨"NumberDressModel", "readSection", "(III)V"⟩ ⟨"NumberDressModel", "readSection", "(III)V"⟩) ∈ zT := zw_pr (q := (⟨"NumberDressModel", "readSection", "(III)V"⟩, 41)) (zp_lw_privs_5 _ (List.mem_of_getElem? (i := 0) rfl)) rfl
theorem zw_65 : (Cond.selects "NumberDressModel" ⟨"NumberDressModel", "kindOf", "(II)I"⟩ ⟨"NumberDressModel", "kindOf", "(II)I"⟩) ∈ zT := zw_pr (q := (⟨"NumberDressModel", "kindOf", "(II)I"⟩, 41)) (zp_lw_privs_5 _ (List.mem_of_getElem? (i := 1) rfl)) rfl
theorem zw_66 : (Cond.selects "NumberDressModel" ⟨"NumberDressModel", "stands", "(IJ)Z"⟩ ⟨"NumberDressModel", "stands", "(IJ)Z"⟩) ∈ zT := zw_pr (q := (⟨"NumberDressModel", "stands", "(IJ)Z"⟩, 41)) (zp_lw_privs_5 _ (List.mem_of_getElem? (i := 2) rfl)) rfl
theorem zw_67 : (Cond.selects "NumberDressModel" ⟨"NumberDressModel", "low", "(I)I"⟩ ⟨"NumberDressModel", "low", "(I)I"⟩) ∈ zT := zw_pr (q := (⟨"NumberDressModel", "low", "(I)I"⟩, 41)) (zp_lw_privs_5 _ (List.mem_of_getElem? (i := 3) rfl)) rfl
theorem zw_68 : (Cond.selects "NumberDressModel" ⟨"NumberDressModel", "inBrackets", "(I)I"⟩ ⟨"NumberDressModel", "inBrackets", "(I)I"⟩) ∈ zT := zw_pr (q := (⟨"NumberDressModel", "inBrackets", "(I)I"⟩, 41)) (zp_lw_privs_5 _ (List.mem_of_getElem? (i := 4) rfl)) rfl
theorem zw_69 : (Cond.selects "NumberDressModel" ⟨"NumberDressModel", "colour", "(I)I"⟩ ⟨"NumberDressModel", "colour", "(I)I"⟩) ∈ zT := zw_pr (q := (⟨"NumberDressModel", "colour", "(I)I"⟩, 41)) (zp_lw_privs_5 _ (List.mem_of_getElem? (i := 5) rfl)) rfl
theorem zw_70 : (Cond.selects "NumberDressModel" ⟨"NumberDressModel", "common", "()Z"⟩ ⟨"NumberDressModel", "common", "()Z"⟩) ∈ zT := zw_pr (q := (⟨"NumberDressModel", "common", "()Z"⟩, 41)) (zp_lw_privs_5 _ (List.mem_of_getElem? (i := 6) rfl)) rfl
theorem zw_71 : (Cond.selects "NumberDressModel" ⟨"NumberDressModel", "item", "(III)V"⟩ ⟨"NumberDressModel", "item", "(III)V"⟩) ∈ zT := zw_pr (q := (⟨"NumberDressModel", "item", "(III)V"⟩, 41)) (zp_lw_privs_5 _ (List.mem_of_getElem? (i := 7) rfl)) rfl
theorem zw_72 : (Cond.selects "NumberDressModel" ⟨"NumberDressModel", "numberItem", "(II)V"⟩ ⟨"NumberDressModel", "numberItem", "(II)V"⟩) ∈ zT := zw_pr (q := (⟨"NumberDressModel", "numberItem", "(II)V"⟩, 41)) (zp_lw_privs_5 _ (List.mem_of_getElem? (i := 8) rfl)) rfl
theorem zw_73 : (Cond.selects "NumberDressModel" ⟨"NumberDressModel", "comma", "(I)V"⟩ ⟨"NumberDressModel", "comma", "(I)V"⟩) ∈ zT := zw_pr (q := (⟨"NumberDressModel", "comma", "(I)V"⟩, 41)) (zp_lw_privs_5 _ (List.mem_of_getElem? (i := 9) rfl)) rfl
theorem zw_74 : (Cond.selects "NumberDressModel" ⟨"NumberDressModel", "before", "(I)I"⟩ ⟨"NumberDressModel", "before", "(I)I"⟩) ∈ zT := zw_pr (q := (⟨"NumberDressModel", "before", "(I)I"⟩, 41)) (zp_lw_privs_5 _ (List.mem_of_getElem? (i := 10) rfl)) rfl
theorem zw_75 : (Cond.selects "NumberDressModel" ⟨"NumberDressModel", "power", "(II)V"⟩ ⟨"NumberDressModel", "power", "(II)V"⟩) ∈ zT := zw_pr (q := (⟨"NumberDressModel", "power", "(II)V"⟩, 41)) (zp_lw_privs_5 _ (List.mem_of_getElem? (i := 11) rfl)) rfl
theorem zw_76 : (Cond.selects "NumberDressModel" ⟨"NumberDressModel", "gather", "(Z)V"⟩ ⟨"NumberDressModel", "gather", "(Z)V"⟩) ∈ zT := zw_pr (q := (⟨"NumberDressModel", "gather", "(Z)V"⟩, 41)) (zp_lw_privs_5 _ (List.mem_of_getElem? (i := 12) rfl)) rfl
theorem zw_77 : (Cond.selects "NumberDressModel" ⟨"NumberDressModel", "stroke", "(II)V"⟩ ⟨"NumberDressModel", "stroke", "(II)V"⟩) ∈ zT := zw_pr (q := (⟨"NumberDressModel", "stroke", "(II)V"⟩, 41)) (zp_lw_privs_5 _ (List.mem_of_getElem? (i := 13) rfl)) rfl
theorem zw_78 : (Cond.selects "NumberDressModel" ⟨"NumberDressModel", "dateItem", "(I)V"⟩ ⟨"NumberDressModel", "dateItem", "(I)V"⟩) ∈ zT := zw_pr (q := (⟨"NumberDressModel", "dateItem", "(I)V"⟩, 41)) (zp_lw_privs_5 _ (List.mem_of_getElem? (i := 14) rfl)) rfl
theorem zw_79 : (Cond.selects "NumberDressModel" ⟨"NumberDressModel", "plainItem", "()V"⟩ ⟨"NumberDressModel", "plainItem", "()V"⟩) ∈ zT := zw_pr (q := (⟨"NumberDressModel", "plainItem", "()V"⟩, 41)) (zp_lw_privs_5 _ (List.mem_of_getElem? (i := 15) rfl)) rfl
theorem zw_80 : (Cond.selects "NumberDressModel" ⟨"NumberDressModel", "minutes", "(I)V"⟩ ⟨"NumberDressModel", "minutes", "(I)V"⟩) ∈ zT := zw_pr (q := (⟨"NumberDressModel", "minutes", "(I)V"⟩, 41)) (zp_lw_privs_6 _ (List.mem_of_getElem? (i := 0) rfl)) rfl
theorem zw_81 : (Cond.selects "NumberDressModel" ⟨"NumberDressModel", "make", "()V"⟩ ⟨"NumberDressModel", "make", "()V"⟩) ∈ zT := zw_pr (q := (⟨"NumberDressModel", "make", "()V"⟩, 41)) (zp_lw_privs_6 _ (List.mem_of_getElem? (i := 1) rfl)) rfl
theorem zw_82 : (Cond.selects "NumberDressModel" ⟨"NumberDressModel", "taken", "()I"⟩ ⟨"NumberDressModel", "taken", "()I"⟩) ∈ zT := zw_pr (q := (⟨"NumberDressModel", "taken", "()I"⟩, 41)) (zp_lw_privs_6 _ (List.mem_of_getElem? (i := 2) rfl)) rfl
theorem zw_83 : (Cond.selects "NumberDressModel" ⟨"NumberDressModel", "put", "(I)V"⟩ ⟨"NumberDressModel", "put", "(I)V"⟩) ∈ zT := zw_pr (q := (⟨"NumberDressModel", "put", "(I)V"⟩, 41)) (zp_lw_privs_6 _ (List.mem_of_getElem? (i := 3) rfl)) rfl
theorem zw_84 : (Cond.selects "NumberDressModel" ⟨"NumberDressModel", "general", "()V"⟩ ⟨"NumberDressModel", "general", "()V"⟩) ∈ zT := zw_pr (q := (⟨"NumberDressModel", "general", "()V"⟩, 41)) (zp_lw_privs_6 _ (List.mem_of_getElem? (i := 4) rfl)) rfl
theorem zw_85 : (Cond.selects "NumberDressModel" ⟨"NumberDressModel", "take", "(I)V"⟩ ⟨"NumberDressModel", "take", "(I)V"⟩) ∈ zT := zw_pr (q := (⟨"NumberDressModel", "take", "(I)V"⟩, 41)) (zp_lw_privs_6 _ (List.mem_of_getElem? (i := 5) rfl)) rfl
theorem zw_86 : (Cond.selects "NumberDressModel" ⟨"NumberDressModel", "figures", "(JI)V"⟩ ⟨"NumberDressModel", "figures", "(JI)V"⟩) ∈ zT := zw_pr (q := (⟨"NumberDressModel", "figures", "(JI)V"⟩, 41)) (zp_lw_privs_6 _ (List.mem_of_getElem? (i := 6) rfl)) rfl
theorem zw_87 : (Cond.selects "NumberDressModel" ⟨"NumberDressModel", "digit", "(I)I"⟩ ⟨"NumberDressModel", "digit", "(I)I"⟩) ∈ zT := zw_pr (q := (⟨"NumberDressModel", "digit", "(I)I"⟩, 41)) (zp_lw_privs_6 _ (List.mem_of_getElem? (i := 7) rfl)) rfl
theorem zw_88 : (Cond.selects "NumberDressModel" ⟨"NumberDressModel", "number", "(IZ)V"⟩ ⟨"NumberDressModel", "number", "(IZ)V"⟩) ∈ zT := zw_pr (q := (⟨"NumberDressModel", "number", "(IZ)V"⟩, 41)) (zp_lw_privs_6 _ (List.mem_of_getElem? (i := 8) rfl)) rfl
theorem zw_89 : (Cond.selects "NumberDressModel" ⟨"NumberDressModel", "countOf", "(II)I"⟩ ⟨"NumberDressModel", "countOf", "(II)I"⟩) ∈ zT := zw_pr (q := (⟨"NumberDressModel", "countOf", "(II)I"⟩, 41)) (zp_lw_privs_6 _ (List.mem_of_getElem? (i := 9) rfl)) rfl
theorem zw_90 : (Cond.selects "NumberDressModel" ⟨"NumberDressModel", "round", "(I)V"⟩ ⟨"NumberDressModel", "round", "(I)V"⟩) ∈ zT := zw_pr (q := (⟨"NumberDressModel", "round", "(I)V"⟩, 41)) (zp_lw_privs_6 _ (List.mem_of_getElem? (i := 10) rfl)) rfl
theorem zw_91 : (Cond.selects "NumberDressModel" ⟨"NumberDressModel", "sign", "(Z)V"⟩ ⟨"NumberDressModel", "sign", "(Z)V"⟩) ∈ zT := zw_pr (q := (⟨"NumberDressModel", "sign", "(Z)V"⟩, 41)) (zp_lw_privs_6 _ (List.mem_of_getElem? (i := 11) rfl)) rfl
theorem zw_92 : (Cond.selects "NumberDressModel" ⟨"NumberDressModel", "places", "(II)V"⟩ ⟨"NumberDressModel", "places", "(II)V"⟩) ∈ zT := zw_pr (q := (⟨"NumberDressModel", "places", "(II)V"⟩, 41)) (zp_lw_privs_6 _ (List.mem_of_getElem? (i := 12) rfl)) rfl
theorem zw_93 : (Cond.selects "NumberDressModel" ⟨"NumberDressModel", "split", "()V"⟩ ⟨"NumberDressModel", "split", "()V"⟩) ∈ zT := zw_pr (q := (⟨"NumberDressModel", "split", "()V"⟩, 41)) (zp_lw_privs_6 _ (List.mem_of_getElem? (i := 13) rfl)) rfl
theorem zw_94 : (Cond.selects "NumberDressModel" ⟨"NumberDressModel", "wholePlace", "(IIZZ)V"⟩ ⟨"NumberDressModel", "wholePlace", "(IIZZ)V"⟩) ∈ zT := zw_pr (q := (⟨"NumberDressModel", "wholePlace", "(IIZZ)V"⟩, 41)) (zp_lw_privs_6 _ (List.mem_of_getElem? (i := 14) rfl)) rfl
theorem zw_95 : (Cond.selects "NumberDressModel" ⟨"NumberDressModel", "blank", "(I)V"⟩ ⟨"NumberDressModel", "blank", "(I)V"⟩) ∈ zT := zw_pr (q := (⟨"NumberDressModel", "blank", "(I)V"⟩, 41)) (zp_lw_privs_6 _ (List.mem_of_getElem? (i := 15) rfl)) rfl
theorem zw_96 : (Cond.selects "NumberDressModel" ⟨"NumberDressModel", "zerosFrom", "(II)Z"⟩ ⟨"NumberDressModel", "zerosFrom", "(II)Z"⟩) ∈ zT := zw_pr (q := (⟨"NumberDressModel", "zerosFrom", "(II)Z"⟩, 41)) (zp_lw_privs_7 _ (List.mem_of_getElem? (i := 0) rfl)) rfl
theorem zw_97 : (Cond.selects "NumberDressModel" ⟨"NumberDressModel", "wholeOf", "(I)V"⟩ ⟨"NumberDressModel", "wholeOf", "(I)V"⟩) ∈ zT := zw_pr (q := (⟨"NumberDressModel", "wholeOf", "(I)V"⟩, 41)) (zp_lw_privs_7 _ (List.mem_of_getElem? (i := 1) rfl)) rfl
theorem zw_98 : (Cond.selects "NumberDressModel" ⟨"NumberDressModel", "packedPlaces", "(II)V"⟩ ⟨"NumberDressModel", "packedPlaces", "(II)V"⟩) ∈ zT := zw_pr (q := (⟨"NumberDressModel", "packedPlaces", "(II)V"⟩, 41)) (zp_lw_privs_7 _ (List.mem_of_getElem? (i := 2) rfl)) rfl
theorem zw_99 : (Cond.selects "NumberDressModel" ⟨"NumberDressModel", "power", "(IZ)V"⟩ ⟨"NumberDressModel", "power", "(IZ)V"⟩) ∈ zT := zw_pr (q := (⟨"NumberDressModel", "power", "(IZ)V"⟩, 41)) (zp_lw_privs_7 _ (List.mem_of_getElem? (i := 3) rfl)) rfl
theorem zw_100 : (Cond.selects "NumberDressModel" ⟨"NumberDressModel", "fraction", "(IZ)V"⟩ ⟨"NumberDressModel", "fraction", "(IZ)V"⟩) ∈ zT := zw_pr (q := (⟨"NumberDressModel", "fraction", "(IZ)V"⟩, 41)) (zp_lw_privs_7 _ (List.mem_of_getElem? (i := 4) rfl)) rfl
theorem zw_101 : (Cond.selects "NumberDressModel" ⟨"NumberDressModel", "putFraction", "(IIIZI)V"⟩ ⟨"NumberDressModel", "putFraction", "(IIIZI)V"⟩) ∈ zT := zw_pr (q := (⟨"NumberDressModel", "putFraction", "(IIIZI)V"⟩, 41)) (zp_lw_privs_7 _ (List.mem_of_getElem? (i := 5) rfl)) rfl
theorem zw_102 : (Cond.selects "NumberDressModel" ⟨"NumberDressModel", "putUnder", "(IZI)V"⟩ ⟨"NumberDressModel", "putUnder", "(IZI)V"⟩) ∈ zT := zw_pr (q := (⟨"NumberDressModel", "putUnder", "(IZI)V"⟩, 41)) (zp_lw_privs_7 _ (List.mem_of_getElem? (i := 6) rfl)) rfl
theorem zw_103 : (Cond.selects "NumberDressModel" ⟨"NumberDressModel", "date", "(I)V"⟩ ⟨"NumberDressModel", "date", "(I)V"⟩) ∈ zT := zw_pr (q := (⟨"NumberDressModel", "date", "(I)V"⟩, 41)) (zp_lw_privs_7 _ (List.mem_of_getElem? (i := 7) rfl)) rfl
theorem zw_104 : (Cond.selects "NumberDressModel" ⟨"NumberDressModel", "findDay", "(I)Z"⟩ ⟨"NumberDressModel", "findDay", "(I)Z"⟩) ∈ zT := zw_pr (q := (⟨"NumberDressModel", "findDay", "(I)Z"⟩, 41)) (zp_lw_privs_7 _ (List.mem_of_getElem? (i := 8) rfl)) rfl
theorem zw_105 : (Cond.selects "NumberDressModel" ⟨"NumberDressModel", "findDate", "()V"⟩ ⟨"NumberDressModel", "findDate", "()V"⟩) ∈ zT := zw_pr (q := (⟨"NumberDressModel", "findDate", "()V"⟩, 41)) (zp_lw_privs_7 _ (List.mem_of_getElem? (i := 9) rfl)) rfl
theorem zw_106 : (Cond.selects "NumberDressModel" ⟨"NumberDressModel", "rowOf", "(IIZ)V"⟩ ⟨"NumberDressModel", "rowOf", "(IIZ)V"⟩) ∈ zT := zw_pr (q := (⟨"NumberDressModel", "rowOf", "(IIZ)V"⟩, 41)) (zp_lw_privs_7 _ (List.mem_of_getElem? (i := 10) rfl)) rfl
theorem zw_107 : (Cond.selects "NumberDressModel" ⟨"NumberDressModel", "name", "(JII)V"⟩ ⟨"NumberDressModel", "name", "(JII)V"⟩) ∈ zT := zw_pr (q := (⟨"NumberDressModel", "name", "(JII)V"⟩, 41)) (zp_lw_privs_7 _ (List.mem_of_getElem? (i := 11) rfl)) rfl
theorem zw_108 : (Cond.selects "NumberDressModel" ⟨"NumberDressModel", "literals", "(I)V"⟩ ⟨"NumberDressModel", "literals", "(I)V"⟩) ∈ zT := zw_pr (q := (⟨"NumberDressModel", "literals", "(I)V"⟩, 41)) (zp_lw_privs_7 _ (List.mem_of_getElem? (i := 12) rfl)) rfl
theorem zw_109 : (Jvm.Cond.initialized "NumberDressLaw") ∈ zT := zw_tb (zq_tables_1_1 _ (List.mem_of_getElem? (i := 0) rfl)) rfl
theorem zw_110 : (Jvm.Cond.initialized "NumberDress") ∈ zT := zw_tb (zq_tables_1_1 _ (List.mem_of_getElem? (i := 1) rfl)) rfl
theorem zw_111 : (Jvm.Cond.initialized "NumberDress$Code") ∈ zT := zw_tb (zq_tables_1_1 _ (List.mem_of_getElem? (i := 2) rfl)) rfl
theorem zw_112 : (Jvm.Cond.initialized "NumberDress$Section") ∈ zT := zw_tb (zq_tables_1_1 _ (List.mem_of_getElem? (i := 3) rfl)) rfl
theorem zw_113 : (Jvm.Cond.initialized "NumberDress$Reader") ∈ zT := zw_tb (zq_tables_1_1 _ (List.mem_of_getElem? (i := 4) rfl)) rfl
theorem zw_114 : (Jvm.Cond.initialized "NumberDress$Value") ∈ zT := zw_tb (zq_tables_1_1 _ (List.mem_of_getElem? (i := 5) rfl)) rfl
theorem zw_115 : (Jvm.Cond.initialized "NumberDress$Dresser") ∈ zT := zw_tb (zq_tables_1_1 _ (List.mem_of_getElem? (i := 6) rfl)) rfl
theorem zw_116 : (Jvm.Cond.initialized "NumberDress$NumberDresser") ∈ zT := zw_tb (zq_tables_1_1 _ (List.mem_of_getElem? (i := 7) rfl)) rfl
theorem zw_117 : (Jvm.Cond.initialized "NumberDress$Digits") ∈ zT := zw_tb (zq_tables_1_1 _ (List.mem_of_getElem? (i := 8) rfl)) rfl
theorem zw_118 : (Jvm.Cond.initialized "NumberDress$FractionDresser") ∈ zT := zw_tb (zq_tables_1_1 _ (List.mem_of_getElem? (i := 9) rfl)) rfl
theorem zw_119 : (Jvm.Cond.initialized "NumberDress$Split") ∈ zT := zw_tb (zq_tables_1_1 _ (List.mem_of_getElem? (i := 10) rfl)) rfl
theorem zw_120 : (Jvm.Cond.initialized "NumberDress$DateDresser") ∈ zT := zw_tb (zq_tables_1_1 _ (List.mem_of_getElem? (i := 11) rfl)) rfl
theorem zw_121 : (Jvm.Cond.initialized "NumberDress$Look") ∈ zT := zw_tb (zq_tables_1_1 _ (List.mem_of_getElem? (i := 12) rfl)) rfl
theorem zw_122 : (Jvm.Cond.initialized "NumberDressModel") ∈ zT := zw_tb (zq_tables_1_1 _ (List.mem_of_getElem? (i := 13) rfl)) rfl
theorem zw_126 : (Jvm.Cond.initialized "java/lang/IllegalArgumentException") ∈ zT := zw_tb (zq_tables_1_1 _ (List.mem_of_getElem? (i := 17) rfl)) rfl
theorem zw_127 : (Jvm.Cond.initialized "java/lang/IllegalStateException") ∈ zT := zw_tb (zq_tables_1_1 _ (List.mem_of_getElem? (i := 18) rfl)) rfl
theorem zw_128 : (Jvm.Cond.initialized "java/lang/Math") ∈ zT := zw_tb (zq_tables_1_1 _ (List.mem_of_getElem? (i := 19) rfl)) rfl
theorem zw_129 : (Jvm.Cond.initialized "java/lang/String") ∈ zT := zw_tb (zq_tables_1_1 _ (List.mem_of_getElem? (i := 20) rfl)) rfl
theorem zw_130 : (Jvm.Cond.initialized "java/lang/StringLatin1") ∈ zT := zw_tb (zq_tables_1_1 _ (List.mem_of_getElem? (i := 21) rfl)) rfl
theorem zw_131 : (Jvm.Cond.initialized "jdk/internal/util/Preconditions") ∈ zT := zw_tb (zq_tables_1_1 _ (List.mem_of_getElem? (i := 22) rfl)) rfl
theorem zw_134 : (Jvm.Cond.initialized "java/lang/System") ∈ zT := zw_tb (zq_tables_1_1 _ (List.mem_of_getElem? (i := 25) rfl)) rfl
theorem zw_135 : (Jvm.Cond.classLink "NumberDressLaw" (8 : Nat) "NumberDress") ∈ zT := zw_tb (zq_tables_1_1 _ (List.mem_of_getElem? (i := 26) rfl)) rfl
theorem zw_136 : (Jvm.Cond.instantiable "NumberDress" (7 : Nat)) ∈ zT := zw_tb (zq_tables_1_1 _ (List.mem_of_getElem? (i := 27) rfl)) rfl
theorem zw_137 : (Jvm.Cond.methodLink "NumberDressLaw" (24 : Nat) ({ cls := "NumberDress", name := "<init>", desc := "()V" } : Jvm.MethodName)) ∈ zT := zw_tb (zq_tables_1_1 _ (List.mem_of_getElem? (i := 28) rfl)) rfl
theorem zw_138 : (Jvm.Cond.instanceMethod ({ cls := "NumberDress", name := "<init>", desc := "()V" } : Jvm.MethodName)) ∈ zT := zw_tb (zq_tables_1_1 _ (List.mem_of_getElem? (i := 29) rfl)) rfl
theorem zw_139 : (Jvm.Cond.code ({ cls := "NumberDress", name := "<init>", desc := "()V" } : Jvm.MethodName) prog_1_method_1_code (1 : Nat) (Option.none : Option Jvm.ClassFile.FieldType)) ∈ zT := zw_tb (zq_tables_1_1 _ (List.mem_of_getElem? (i := 30) rfl)) rfl
theorem zw_140 : (Jvm.Cond.methodLink "NumberDress" (1 : Nat) ({ cls := "java/lang/Object", name := "<init>", desc := "()V" } : Jvm.MethodName)) ∈ zT := zw_tb (zq_tables_1_1 _ (List.mem_of_getElem? (i := 31) rfl)) rfl
theorem zw_141 : (Jvm.Cond.instanceMethod ({ cls := "java/lang/Object", name := "<init>", desc := "()V" } : Jvm.MethodName)) ∈ zT := zw_tb (zq_tables_1_1 _ (List.mem_of_getElem? (i := 32) rfl)) rfl
theorem zw_142 : (Jvm.Cond.code ({ cls := "java/lang/Object", name := "<init>", desc := "()V" } : Jvm.MethodName) object_method_1_code (1 : Nat) (Option.none : Option Jvm.ClassFile.FieldType)) ∈ zT := zw_tb (zq_tables_1_1 _ (List.mem_of_getElem? (i := 33) rfl)) rfl
theorem zw_143 : (Jvm.Cond.classLink "NumberDress" (13 : Nat) "NumberDress$Code") ∈ zT := zw_tb (zq_tables_1_1 _ (List.mem_of_getElem? (i := 34) rfl)) rfl
theorem zw_144 : (Jvm.Cond.instantiable "NumberDress$Code" (5 : Nat)) ∈ zT := zw_tb (zq_tables_1_1 _ (List.mem_of_getElem? (i := 35) rfl)) rfl
theorem zw_145 : (Jvm.Cond.methodLink "NumberDress" (15 : Nat) ({ cls := "NumberDress$Code", name := "<init>", desc := "()V" } : Jvm.MethodName)) ∈ zT := zw_tb (zq_tables_1_1 _ (List.mem_of_getElem? (i := 36) rfl)) rfl
theorem zw_146 : (Jvm.Cond.instanceMethod ({ cls := "NumberDress$Code", name := "<init>", desc := "()V" } : Jvm.MethodName)) ∈ zT := zw_tb (zq_tables_1_1 _ (List.mem_of_getElem? (i := 37) rfl)) rfl
theorem zw_147 : (Jvm.Cond.code ({ cls := "NumberDress$Code", name := "<init>", desc := "()V" } : Jvm.MethodName) prog_2_method_1_code (2 : Nat) (Option.none : Option Jvm.ClassFile.FieldType)) ∈ zT := zw_tb (zq_tables_1_1 _ (List.mem_of_getElem? (i := 38) rfl)) rfl
theorem zw_148 : (Jvm.Cond.methodLink "NumberDress$Code" (3 : Nat) ({ cls := "java/lang/Object", name := "<init>", desc := "()V" } : Jvm.MethodName)) ∈ zT := zw_tb (zq_tables_1_1 _ (List.mem_of_getElem? (i := 39) rfl)) rfl
theorem zw_149 : (Jvm.Cond.classLink "NumberDress$Code" (9 : Nat) "NumberDress$Section") ∈ zT := zw_tb (zq_tables_1_1 _ (List.mem_of_getElem? (i := 40) rfl)) rfl
theorem zw_151 : (Jvm.Cond.instantiable "NumberDress$Section" (15 : Nat)) ∈ zT := zw_tb (zq_tables_1_1 _ (List.mem_of_getElem? (i := 42) rfl)) rfl
theorem zw_153 : (Jvm.Cond.instanceMethod ({ cls := "NumberDress$Section", name := "<init>", desc := "()V" } : Jvm.MethodName)) ∈ zT := zw_tb (zq_tables_1_1 _ (List.mem_of_getElem? (i := 44) rfl)) rfl
theorem zw_154 : (Jvm.Cond.code ({ cls := "NumberDress$Section", name := "<init>", desc := "()V" } : Jvm.MethodName) prog_10_method_1_code (1 : Nat) (Option.none : Option Jvm.ClassFile.FieldType)) ∈ zT := zw_tb (zq_tables_1_1 _ (List.mem_of_getElem? (i := 45) rfl)) rfl
theorem zw_155 : (Jvm.Cond.methodLink "NumberDress$Section" (3 : Nat) ({ cls := "java/lang/Object", name := "<init>", desc := "()V" } : Jvm.MethodName)) ∈ zT := zw_tb (zq_tables_1_1 _ (List.mem_of_getElem? (i := 46) rfl)) rfl
theorem zw_156 : (Jvm.Cond.fieldLink "NumberDress$Section" (9 : Nat) "NumberDress$Section" "kind" "I") ∈ zT := zw_tb (zq_tables_1_1 _ (List.mem_of_getElem? (i := 47) rfl)) rfl
theorem zw_157 : (Jvm.Cond.fieldLink "NumberDress$NumberDresser" (21 : Nat) "NumberDress$Section" "kind" "I") ∈ zT := zw_tb (zq_tables_1_1 _ (List.mem_of_getElem? (i := 48) rfl)) rfl
theorem zw_158 : (Jvm.Cond.fieldLink "NumberDress$Dresser" (60 : Nat) "NumberDress$Section" "kind" "I") ∈ zT := zw_tb (zq_tables_1_1 _ (List.mem_of_getElem? (i := 49) rfl)) rfl
theorem zw_159 : (Jvm.Cond.fieldLink "NumberDress$Reader" (50 : Nat) "NumberDress$Section" "kind" "I") ∈ zT := zw_tb (zq_tables_1_1 _ (List.mem_of_getElem? (i := 50) rfl)) rfl
theorem zw_160 : (Jvm.Cond.fieldLink "NumberDress$Code" (40 : Nat) "NumberDress$Section" "kind" "I") ∈ zT := zw_tb (zq_tables_1_1 _ (List.mem_of_getElem? (i := 51) rfl)) rfl
theorem zw_161 : (Jvm.Cond.fieldLink "NumberDress" (114 : Nat) "NumberDress$Section" "kind" "I") ∈ zT := zw_tb (zq_tables_1_1 _ (List.mem_of_getElem? (i := 52) rfl)) rfl
theorem zw_162 : (Jvm.Cond.fieldLink "NumberDress$Section" (15 : Nat) "NumberDress$Section" "first" "I") ∈ zT := zw_tb (zq_tables_1_1 _ (List.mem_of_getElem? (i := 53) rfl)) rfl
theorem zw_163 : (Jvm.Cond.fieldLink "NumberDress$DateDresser" (56 : Nat) "NumberDress$Section" "first" "I") ∈ zT := zw_tb (zq_tables_1_1 _ (List.mem_of_getElem? (i := 54) rfl)) rfl
theorem zw_164 : (Jvm.Cond.fieldLink "NumberDress$Dresser" (87 : Nat) "NumberDress$Section" "first" "I") ∈ zT := zw_tb (zq_tables_1_1 _ (List.mem_of_getElem? (i := 55) rfl)) rfl
theorem zw_165 : (Jvm.Cond.fieldLink "NumberDress$NumberDresser" (98 : Nat) "NumberDress$Section" "first" "I") ∈ zT := zw_tb (zq_tables_1_1 _ (List.mem_of_getElem? (i := 56) rfl)) rfl
theorem zw_166 : (Jvm.Cond.fieldLink "NumberDress$FractionDresser" (100 : Nat) "NumberDress$Section" "first" "I") ∈ zT := zw_tb (zq_tables_1_1 _ (List.mem_of_getElem? (i := 57) rfl)) rfl
theorem zw_167 : (Jvm.Cond.fieldLink "NumberDress$Reader" (210 : Nat) "NumberDress$Section" "first" "I") ∈ zT := zw_tb (zq_tables_1_1 _ (List.mem_of_getElem? (i := 58) rfl)) rfl
theorem zw_168 : (Jvm.Cond.fieldLink "NumberDress$Section" (18 : Nat) "NumberDress$Section" "end" "I") ∈ zT := zw_tb (zq_tables_1_1 _ (List.mem_of_getElem? (i := 59) rfl)) rfl
theorem zw_169 : (Jvm.Cond.fieldLink "NumberDress$DateDresser" (59 : Nat) "NumberDress$Section" "end" "I") ∈ zT := zw_tb (zq_tables_1_1 _ (List.mem_of_getElem? (i := 60) rfl)) rfl
theorem zw_170 : (Jvm.Cond.fieldLink "NumberDress$Dresser" (90 : Nat) "NumberDress$Section" "end" "I") ∈ zT := zw_tb (zq_tables_1_1 _ (List.mem_of_getElem? (i := 61) rfl)) rfl
theorem zw_171 : (Jvm.Cond.fieldLink "NumberDress$NumberDresser" (101 : Nat) "NumberDress$Section" "end" "I") ∈ zT := zw_tb (zq_tables_1_1 _ (List.mem_of_getElem? (i := 62) rfl)) rfl
theorem zw_172 : (Jvm.Cond.fieldLink "NumberDress$Reader" (80 : Nat) "NumberDress$Section" "end" "I") ∈ zT := zw_tb (zq_tables_1_1 _ (List.mem_of_getElem? (i := 63) rfl)) rfl
theorem zw_173 : (Jvm.Cond.fieldLink "NumberDress$FractionDresser" (103 : Nat) "NumberDress$Section" "end" "I") ∈ zT := zw_tb (zq_tables_1_1 _ (List.mem_of_getElem? (i := 64) rfl)) rfl
theorem zw_174 : (Jvm.Cond.fieldLink "NumberDress$FractionDresser" (29 : Nat) "NumberDress$Section" "wholes" "I") ∈ zT := zw_tb (zq_tables_1_1 _ (List.mem_of_getElem? (i := 65) rfl)) rfl
theorem zw_175 : (Jvm.Cond.fieldLink "NumberDress$Section" (21 : Nat) "NumberDress$Section" "wholes" "I") ∈ zT := zw_tb (zq_tables_1_1 _ (List.mem_of_getElem? (i := 66) rfl)) rfl
theorem zw_176 : (Jvm.Cond.fieldLink "NumberDress$NumberDresser" (66 : Nat) "NumberDress$Section" "wholes" "I") ∈ zT := zw_tb (zq_tables_1_1 _ (List.mem_of_getElem? (i := 67) rfl)) rfl
theorem zw_177 : (Jvm.Cond.fieldLink "NumberDress$Reader" (180 : Nat) "NumberDress$Section" "wholes" "I") ∈ zT := zw_tb (zq_tables_1_1 _ (List.mem_of_getElem? (i := 68) rfl)) rfl
theorem zw_178 : (Jvm.Cond.fieldLink "NumberDress$Section" (24 : Nat) "NumberDress$Section" "decimals" "I") ∈ zT := zw_tb (zq_tables_1_1 _ (List.mem_of_getElem? (i := 69) rfl)) rfl
theorem zw_179 : (Jvm.Cond.fieldLink "NumberDress$NumberDresser" (45 : Nat) "NumberDress$Section" "decimals" "I") ∈ zT := zw_tb (zq_tables_1_1 _ (List.mem_of_getElem? (i := 70) rfl)) rfl
theorem zw_180 : (Jvm.Cond.fieldLink "NumberDress$Reader" (174 : Nat) "NumberDress$Section" "decimals" "I") ∈ zT := zw_tb (zq_tables_1_1 _ (List.mem_of_getElem? (i := 71) rfl)) rfl
theorem zw_181 : (Jvm.Cond.fieldLink "NumberDress$Section" (27 : Nat) "NumberDress$Section" "point" "Z") ∈ zT := zw_tb (zq_tables_1_1 _ (List.mem_of_getElem? (i := 72) rfl)) rfl
theorem zw_182 : (Jvm.Cond.fieldLink "NumberDress$Reader" (170 : Nat) "NumberDress$Section" "point" "Z") ∈ zT := zw_tb (zq_tables_1_1 _ (List.mem_of_getElem? (i := 73) rfl)) rfl
theorem zw_183 : (Jvm.Cond.fieldLink "NumberDress$Section" (31 : Nat) "NumberDress$Section" "thousands" "Z") ∈ zT := zw_tb (zq_tables_1_1 _ (List.mem_of_getElem? (i := 74) rfl)) rfl
theorem zw_184 : (Jvm.Cond.fieldLink "NumberDress$NumberDresser" (111 : Nat) "NumberDress$Section" "thousands" "Z") ∈ zT := zw_tb (zq_tables_1_1 _ (List.mem_of_getElem? (i := 75) rfl)) rfl
theorem zw_185 : (Jvm.Cond.fieldLink "NumberDress$Reader" (186 : Nat) "NumberDress$Section" "thousands" "Z") ∈ zT := zw_tb (zq_tables_1_1 _ (List.mem_of_getElem? (i := 76) rfl)) rfl
theorem zw_186 : (Jvm.Cond.fieldLink "NumberDress$NumberDresser" (34 : Nat) "NumberDress$Section" "thousandths" "I") ∈ zT := zw_tb (zq_tables_1_1 _ (List.mem_of_getElem? (i := 77) rfl)) rfl
theorem zw_187 : (Jvm.Cond.fieldLink "NumberDress$Section" (34 : Nat) "NumberDress$Section" "thousandths" "I") ∈ zT := zw_tb (zq_tables_1_1 _ (List.mem_of_getElem? (i := 78) rfl)) rfl
theorem zw_188 : (Jvm.Cond.fieldLink "NumberDress$Reader" (177 : Nat) "NumberDress$Section" "thousandths" "I") ∈ zT := zw_tb (zq_tables_1_1 _ (List.mem_of_getElem? (i := 79) rfl)) rfl
theorem zw_189 : (Jvm.Cond.fieldLink "NumberDress$NumberDresser" (31 : Nat) "NumberDress$Section" "percents" "I") ∈ zT := zw_tb (zq_tables_1_1 _ (List.mem_of_getElem? (i := 80) rfl)) rfl
theorem zw_190 : (Jvm.Cond.fieldLink "NumberDress$Section" (37 : Nat) "NumberDress$Section" "percents" "I") ∈ zT := zw_tb (zq_tables_1_1 _ (List.mem_of_getElem? (i := 81) rfl)) rfl
theorem zw_191 : (Jvm.Cond.fieldLink "NumberDress$Reader" (161 : Nat) "NumberDress$Section" "percents" "I") ∈ zT := zw_tb (zq_tables_1_1 _ (List.mem_of_getElem? (i := 82) rfl)) rfl
theorem zw_192 : (Jvm.Cond.fieldLink "NumberDress$Section" (40 : Nat) "NumberDress$Section" "powers" "I") ∈ zT := zw_tb (zq_tables_1_1 _ (List.mem_of_getElem? (i := 83) rfl)) rfl
theorem zw_193 : (Jvm.Cond.fieldLink "NumberDress$NumberDresser" (95 : Nat) "NumberDress$Section" "powers" "I") ∈ zT := zw_tb (zq_tables_1_1 _ (List.mem_of_getElem? (i := 84) rfl)) rfl
theorem zw_194 : (Jvm.Cond.fieldLink "NumberDress$Reader" (195 : Nat) "NumberDress$Section" "powers" "I") ∈ zT := zw_tb (zq_tables_1_1 _ (List.mem_of_getElem? (i := 85) rfl)) rfl
theorem zw_195 : (Jvm.Cond.fieldLink "NumberDress$Section" (43 : Nat) "NumberDress$Section" "numerators" "I") ∈ zT := zw_tb (zq_tables_1_1 _ (List.mem_of_getElem? (i := 86) rfl)) rfl
theorem zw_196 : (Jvm.Cond.fieldLink "NumberDress$FractionDresser" (97 : Nat) "NumberDress$Section" "numerators" "I") ∈ zT := zw_tb (zq_tables_1_1 _ (List.mem_of_getElem? (i := 87) rfl)) rfl
theorem zw_197 : (Jvm.Cond.fieldLink "NumberDress$Reader" (218 : Nat) "NumberDress$Section" "numerators" "I") ∈ zT := zw_tb (zq_tables_1_1 _ (List.mem_of_getElem? (i := 88) rfl)) rfl
theorem zw_198 : (Jvm.Cond.fieldLink "NumberDress$Section" (46 : Nat) "NumberDress$Section" "denominators" "I") ∈ zT := zw_tb (zq_tables_1_1 _ (List.mem_of_getElem? (i := 89) rfl)) rfl
theorem zw_199 : (Jvm.Cond.fieldLink "NumberDress$FractionDresser" (83 : Nat) "NumberDress$Section" "denominators" "I") ∈ zT := zw_tb (zq_tables_1_1 _ (List.mem_of_getElem? (i := 90) rfl)) rfl
theorem zw_200 : (Jvm.Cond.fieldLink "NumberDress$Reader" (207 : Nat) "NumberDress$Section" "denominators" "I") ∈ zT := zw_tb (zq_tables_1_1 _ (List.mem_of_getElem? (i := 91) rfl)) rfl
theorem zw_201 : (Jvm.Cond.fieldLink "NumberDress$Section" (49 : Nat) "NumberDress$Section" "given" "I") ∈ zT := zw_tb (zq_tables_1_1 _ (List.mem_of_getElem? (i := 92) rfl)) rfl
theorem zw_202 : (Jvm.Cond.fieldLink "NumberDress$FractionDresser" (76 : Nat) "NumberDress$Section" "given" "I") ∈ zT := zw_tb (zq_tables_1_1 _ (List.mem_of_getElem? (i := 93) rfl)) rfl
theorem zw_203 : (Jvm.Cond.fieldLink "NumberDress$Reader" (204 : Nat) "NumberDress$Section" "given" "I") ∈ zT := zw_tb (zq_tables_1_1 _ (List.mem_of_getElem? (i := 94) rfl)) rfl
theorem zw_204 : (Jvm.Cond.fieldLink "NumberDress$DateDresser" (38 : Nat) "NumberDress$Section" "parts" "I") ∈ zT := zw_tb (zq_tables_1_1 _ (List.mem_of_getElem? (i := 95) rfl)) rfl
theorem zw_205 : (Jvm.Cond.fieldLink "NumberDress$Section" (52 : Nat) "NumberDress$Section" "parts" "I") ∈ zT := zw_tb (zq_tables_1_1 _ (List.mem_of_getElem? (i := 96) rfl)) rfl
theorem zw_206 : (Jvm.Cond.fieldLink "NumberDress$Reader" (246 : Nat) "NumberDress$Section" "parts" "I") ∈ zT := zw_tb (zq_tables_1_1 _ (List.mem_of_getElem? (i := 97) rfl)) rfl
theorem zw_207 : (Jvm.Cond.fieldLink "NumberDress$Section" (55 : Nat) "NumberDress$Section" "halfDays" "Z") ∈ zT := zw_tb (zq_tables_1_1 _ (List.mem_of_getElem? (i := 98) rfl)) rfl
theorem zw_208 : (Jvm.Cond.fieldLink "NumberDress$DateDresser" (71 : Nat) "NumberDress$Section" "halfDays" "Z") ∈ zT := zw_tb (zq_tables_1_1 _ (List.mem_of_getElem? (i := 99) rfl)) rfl
theorem zw_209 : (Jvm.Cond.fieldLink "NumberDress$Reader" (243 : Nat) "NumberDress$Section" "halfDays" "Z") ∈ zT := zw_tb (zq_tables_1_1 _ (List.mem_of_getElem? (i := 100) rfl)) rfl
theorem zw_241 : (Jvm.Cond.arrayClass Jvm.ClassFile.FieldType.char) ∈ zT := zw_tb (zq_tables_1_1 _ (List.mem_of_getElem? (i := 132) rfl)) rfl
theorem zw_242 : (Jvm.Cond.arrayClass Jvm.ClassFile.FieldType.int) ∈ zT := zw_tb (zq_tables_1_1 _ (List.mem_of_getElem? (i := 133) rfl)) rfl
theorem zw_243 : (Jvm.Cond.fieldLink "NumberDress$Code" (11 : Nat) "NumberDress$Code" "sections" "[LNumberDress$Section;") ∈ zT := zw_tb (zq_tables_1_1 _ (List.mem_of_getElem? (i := 134) rfl)) rfl
theorem zw_244 : (Jvm.Cond.fieldLink "NumberDress$Code" (17 : Nat) "NumberDress$Code" "count" "I") ∈ zT := zw_tb (zq_tables_1_1 _ (List.mem_of_getElem? (i := 135) rfl)) rfl
theorem zw_245 : (Jvm.Cond.fieldLink "NumberDress" (103 : Nat) "NumberDress$Code" "count" "I") ∈ zT := zw_tb (zq_tables_1_1 _ (List.mem_of_getElem? (i := 136) rfl)) rfl
theorem zw_246 : (Jvm.Cond.fieldLink "NumberDress$Code" (21 : Nat) "NumberDress$Code" "kinds" "[I") ∈ zT := zw_tb (zq_tables_1_1 _ (List.mem_of_getElem? (i := 137) rfl)) rfl
theorem zw_247 : (Jvm.Cond.fieldLink "NumberDress$Code" (25 : Nat) "NumberDress$Code" "marks" "[I") ∈ zT := zw_tb (zq_tables_1_1 _ (List.mem_of_getElem? (i := 138) rfl)) rfl
theorem zw_248 : (Jvm.Cond.fieldLink "NumberDress$Code" (29 : Nat) "NumberDress$Code" "items" "I") ∈ zT := zw_tb (zq_tables_1_1 _ (List.mem_of_getElem? (i := 139) rfl)) rfl
theorem zw_249 : (Jvm.Cond.fieldLink "NumberDress$Reader" (77 : Nat) "NumberDress$Code" "items" "I") ∈ zT := zw_tb (zq_tables_1_1 _ (List.mem_of_getElem? (i := 140) rfl)) rfl
theorem zw_261 : (Jvm.Cond.classLink "NumberDress" (20 : Nat) "NumberDress$Reader") ∈ zT := zw_tb (zq_tables_1_1 _ (List.mem_of_getElem? (i := 152) rfl)) rfl
theorem zw_262 : (Jvm.Cond.instantiable "NumberDress$Reader" (5 : Nat)) ∈ zT := zw_tb (zq_tables_1_1 _ (List.mem_of_getElem? (i := 153) rfl)) rfl
theorem zw_264 : (Jvm.Cond.instanceMethod ({ cls := "NumberDress$Reader", name := "<init>", desc := "()V" } : Jvm.MethodName)) ∈ zT := zw_tb (zq_tables_1_1 _ (List.mem_of_getElem? (i := 155) rfl)) rfl
theorem zw_265 : (Jvm.Cond.code ({ cls := "NumberDress$Reader", name := "<init>", desc := "()V" } : Jvm.MethodName) prog_9_method_1_code (1 : Nat) (Option.none : Option Jvm.ClassFile.FieldType)) ∈ zT := zw_tb (zq_tables_1_1 _ (List.mem_of_getElem? (i := 156) rfl)) rfl
theorem zw_266 : (Jvm.Cond.methodLink "NumberDress$Reader" (3 : Nat) ({ cls := "java/lang/Object", name := "<init>", desc := "()V" } : Jvm.MethodName)) ∈ zT := zw_tb (zq_tables_1_1 _ (List.mem_of_getElem? (i := 157) rfl)) rfl
theorem zw_267 : (Jvm.Cond.classLink "NumberDress$Reader" (15 : Nat) "NumberDress$Code") ∈ zT := zw_tb (zq_tables_1_1 _ (List.mem_of_getElem? (i := 158) rfl)) rfl
theorem zw_268 : (Jvm.Cond.methodLink "NumberDress$Reader" (17 : Nat) ({ cls := "NumberDress$Code", name := "<init>", desc := "()V" } : Jvm.MethodName)) ∈ zT := zw_tb (zq_tables_1_1 _ (List.mem_of_getElem? (i := 159) rfl)) rfl
theorem zw_269 : (Jvm.Cond.classLink "NumberDress$Reader" (22 : Nat) "NumberDress$Section") ∈ zT := zw_tb (zq_tables_1_1 _ (List.mem_of_getElem? (i := 160) rfl)) rfl
theorem zw_271 : (Jvm.Cond.fieldLink "NumberDress$Reader" (9 : Nat) "NumberDress$Reader" "signs" "[C") ∈ zT := zw_tb (zq_tables_1_1 _ (List.mem_of_getElem? (i := 162) rfl)) rfl
theorem zw_272 : (Jvm.Cond.fieldLink "NumberDress$Reader" (35 : Nat) "NumberDress$Reader" "length" "I") ∈ zT := zw_tb (zq_tables_1_1 _ (List.mem_of_getElem? (i := 163) rfl)) rfl
theorem zw_273 : (Jvm.Cond.fieldLink "NumberDress$Reader" (18 : Nat) "NumberDress$Reader" "code" "LNumberDress$Code;") ∈ zT := zw_tb (zq_tables_1_1 _ (List.mem_of_getElem? (i := 164) rfl)) rfl
theorem zw_274 : (Jvm.Cond.fieldLink "NumberDress$Reader" (25 : Nat) "NumberDress$Reader" "section" "LNumberDress$Section;") ∈ zT := zw_tb (zq_tables_1_1 _ (List.mem_of_getElem? (i := 165) rfl)) rfl
theorem zw_275 : (Jvm.Cond.fieldLink "NumberDress$Reader" (71 : Nat) "NumberDress$Reader" "kindPlace" "I") ∈ zT := zw_tb (zq_tables_1_1 _ (List.mem_of_getElem? (i := 166) rfl)) rfl
theorem zw_287 : (Jvm.Cond.classLink "NumberDress" (27 : Nat) "NumberDress$Value") ∈ zT := zw_tb (zq_tables_1_1 _ (List.mem_of_getElem? (i := 178) rfl)) rfl
theorem zw_288 : (Jvm.Cond.instantiable "NumberDress$Value" (6 : Nat)) ∈ zT := zw_tb (zq_tables_1_1 _ (List.mem_of_getElem? (i := 179) rfl)) rfl
theorem zw_290 : (Jvm.Cond.instanceMethod ({ cls := "NumberDress$Value", name := "<init>", desc := "()V" } : Jvm.MethodName)) ∈ zT := zw_tb (zq_tables_1_1 _ (List.mem_of_getElem? (i := 181) rfl)) rfl
theorem zw_291 : (Jvm.Cond.code ({ cls := "NumberDress$Value", name := "<init>", desc := "()V" } : Jvm.MethodName) prog_12_method_1_code (1 : Nat) (Option.none : Option Jvm.ClassFile.FieldType)) ∈ zT := zw_tb (zq_tables_1_1 _ (List.mem_of_getElem? (i := 182) rfl)) rfl
theorem zw_292 : (Jvm.Cond.methodLink "NumberDress$Value" (3 : Nat) ({ cls := "java/lang/Object", name := "<init>", desc := "()V" } : Jvm.MethodName)) ∈ zT := zw_tb (zq_tables_1_1 _ (List.mem_of_getElem? (i := 183) rfl)) rfl
theorem zw_293 : (Jvm.Cond.fieldLink "NumberDress$Value" (15 : Nat) "NumberDress$Value" "isText" "Z") ∈ zT := zw_tb (zq_tables_1_1 _ (List.mem_of_getElem? (i := 184) rfl)) rfl
theorem zw_294 : (Jvm.Cond.fieldLink "NumberDress$Dresser" (66 : Nat) "NumberDress$Value" "isText" "Z") ∈ zT := zw_tb (zq_tables_1_1 _ (List.mem_of_getElem? (i := 185) rfl)) rfl
theorem zw_295 : (Jvm.Cond.fieldLink "NumberDress$Code" (43 : Nat) "NumberDress$Value" "isText" "Z") ∈ zT := zw_tb (zq_tables_1_1 _ (List.mem_of_getElem? (i := 186) rfl)) rfl
theorem zw_296 : (Jvm.Cond.fieldLink "NumberDress$Value" (19 : Nat) "NumberDress$Value" "negative" "Z") ∈ zT := zw_tb (zq_tables_1_1 _ (List.mem_of_getElem? (i := 187) rfl)) rfl
theorem zw_297 : (Jvm.Cond.fieldLink "NumberDress$Dresser" (51 : Nat) "NumberDress$Value" "negative" "Z") ∈ zT := zw_tb (zq_tables_1_1 _ (List.mem_of_getElem? (i := 188) rfl)) rfl
theorem zw_298 : (Jvm.Cond.fieldLink "NumberDress$Code" (56 : Nat) "NumberDress$Value" "negative" "Z") ∈ zT := zw_tb (zq_tables_1_1 _ (List.mem_of_getElem? (i := 189) rfl)) rfl
theorem zw_299 : (Jvm.Cond.fieldLink "NumberDress$Split" (22 : Nat) "NumberDress$Value" "digits" "J") ∈ zT := zw_tb (zq_tables_1_1 _ (List.mem_of_getElem? (i := 190) rfl)) rfl
theorem zw_300 : (Jvm.Cond.fieldLink "NumberDress$Value" (22 : Nat) "NumberDress$Value" "digits" "J") ∈ zT := zw_tb (zq_tables_1_1 _ (List.mem_of_getElem? (i := 191) rfl)) rfl
theorem zw_301 : (Jvm.Cond.fieldLink "NumberDress$NumberDresser" (37 : Nat) "NumberDress$Value" "digits" "J") ∈ zT := zw_tb (zq_tables_1_1 _ (List.mem_of_getElem? (i := 192) rfl)) rfl
theorem zw_302 : (Jvm.Cond.fieldLink "NumberDress$Dresser" (110 : Nat) "NumberDress$Value" "digits" "J") ∈ zT := zw_tb (zq_tables_1_1 _ (List.mem_of_getElem? (i := 193) rfl)) rfl
theorem zw_303 : (Jvm.Cond.fieldLink "NumberDress$Code" (59 : Nat) "NumberDress$Value" "digits" "J") ∈ zT := zw_tb (zq_tables_1_1 _ (List.mem_of_getElem? (i := 194) rfl)) rfl
theorem zw_304 : (Jvm.Cond.fieldLink "NumberDress$Split" (16 : Nat) "NumberDress$Value" "scale" "I") ∈ zT := zw_tb (zq_tables_1_1 _ (List.mem_of_getElem? (i := 195) rfl)) rfl
theorem zw_305 : (Jvm.Cond.fieldLink "NumberDress$Value" (26 : Nat) "NumberDress$Value" "scale" "I") ∈ zT := zw_tb (zq_tables_1_1 _ (List.mem_of_getElem? (i := 196) rfl)) rfl
theorem zw_306 : (Jvm.Cond.fieldLink "NumberDress$NumberDresser" (42 : Nat) "NumberDress$Value" "scale" "I") ∈ zT := zw_tb (zq_tables_1_1 _ (List.mem_of_getElem? (i := 197) rfl)) rfl
theorem zw_307 : (Jvm.Cond.fieldLink "NumberDress$Dresser" (114 : Nat) "NumberDress$Value" "scale" "I") ∈ zT := zw_tb (zq_tables_1_1 _ (List.mem_of_getElem? (i := 198) rfl)) rfl
theorem zw_308 : (Jvm.Cond.fieldLink "NumberDress$Value" (9 : Nat) "NumberDress$Value" "words" "[C") ∈ zT := zw_tb (zq_tables_1_1 _ (List.mem_of_getElem? (i := 199) rfl)) rfl
theorem zw_309 : (Jvm.Cond.fieldLink "NumberDress$Dresser" (106 : Nat) "NumberDress$Value" "words" "[C") ∈ zT := zw_tb (zq_tables_1_1 _ (List.mem_of_getElem? (i := 200) rfl)) rfl
theorem zw_310 : (Jvm.Cond.fieldLink "NumberDress$Value" (30 : Nat) "NumberDress$Value" "wordsLength" "I") ∈ zT := zw_tb (zq_tables_1_1 _ (List.mem_of_getElem? (i := 201) rfl)) rfl
theorem zw_311 : (Jvm.Cond.fieldLink "NumberDress$Dresser" (103 : Nat) "NumberDress$Value" "wordsLength" "I") ∈ zT := zw_tb (zq_tables_1_1 _ (List.mem_of_getElem? (i := 202) rfl)) rfl
theorem zw_325 : (Jvm.Cond.classLink "NumberDress" (34 : Nat) "NumberDress$Dresser") ∈ zT := zw_tb (zq_tables_1_1 _ (List.mem_of_getElem? (i := 216) rfl)) rfl
theorem zw_326 : (Jvm.Cond.instantiable "NumberDress$Dresser" (3 : Nat)) ∈ zT := zw_tb (zq_tables_1_1 _ (List.mem_of_getElem? (i := 217) rfl)) rfl
theorem zw_328 : (Jvm.Cond.instanceMethod ({ cls := "NumberDress$Dresser", name := "<init>", desc := "()V" } : Jvm.MethodName)) ∈ zT := zw_tb (zq_tables_1_1 _ (List.mem_of_getElem? (i := 219) rfl)) rfl
theorem zw_329 : (Jvm.Cond.code ({ cls := "NumberDress$Dresser", name := "<init>", desc := "()V" } : Jvm.MethodName) prog_5_method_1_code (1 : Nat) (Option.none : Option Jvm.ClassFile.FieldType)) ∈ zT := zw_tb (zq_tables_1_1 _ (List.mem_of_getElem? (i := 220) rfl)) rfl
theorem zw_330 : (Jvm.Cond.methodLink "NumberDress$Dresser" (3 : Nat) ({ cls := "java/lang/Object", name := "<init>", desc := "()V" } : Jvm.MethodName)) ∈ zT := zw_tb (zq_tables_1_1 _ (List.mem_of_getElem? (i := 221) rfl)) rfl
theorem zw_331 : (Jvm.Cond.classLink "NumberDress$Dresser" (9 : Nat) "NumberDress$NumberDresser") ∈ zT := zw_tb (zq_tables_1_1 _ (List.mem_of_getElem? (i := 222) rfl)) rfl
theorem zw_332 : (Jvm.Cond.instantiable "NumberDress$NumberDresser" (3 : Nat)) ∈ zT := zw_tb (zq_tables_1_1 _ (List.mem_of_getElem? (i := 223) rfl)) rfl
theorem zw_334 : (Jvm.Cond.instanceMethod ({ cls := "NumberDress$NumberDresser", name := "<init>", desc := "()V" } : Jvm.MethodName)) ∈ zT := zw_tb (zq_tables_1_1 _ (List.mem_of_getElem? (i := 225) rfl)) rfl
theorem zw_335 : (Jvm.Cond.code ({ cls := "NumberDress$NumberDresser", name := "<init>", desc := "()V" } : Jvm.MethodName) prog_8_method_1_code (1 : Nat) (Option.none : Option Jvm.ClassFile.FieldType)) ∈ zT := zw_tb (zq_tables_1_1 _ (List.mem_of_getElem? (i := 226) rfl)) rfl
theorem zw_336 : (Jvm.Cond.methodLink "NumberDress$NumberDresser" (3 : Nat) ({ cls := "java/lang/Object", name := "<init>", desc := "()V" } : Jvm.MethodName)) ∈ zT := zw_tb (zq_tables_1_1 _ (List.mem_of_getElem? (i := 227) rfl)) rfl
theorem zw_337 : (Jvm.Cond.classLink "NumberDress$NumberDresser" (9 : Nat) "NumberDress$Digits") ∈ zT := zw_tb (zq_tables_1_1 _ (List.mem_of_getElem? (i := 228) rfl)) rfl
theorem zw_338 : (Jvm.Cond.instantiable "NumberDress$Digits" (4 : Nat)) ∈ zT := zw_tb (zq_tables_1_1 _ (List.mem_of_getElem? (i := 229) rfl)) rfl
theorem zw_340 : (Jvm.Cond.instanceMethod ({ cls := "NumberDress$Digits", name := "<init>", desc := "()V" } : Jvm.MethodName)) ∈ zT := zw_tb (zq_tables_1_1 _ (List.mem_of_getElem? (i := 231) rfl)) rfl
theorem zw_341 : (Jvm.Cond.code ({ cls := "NumberDress$Digits", name := "<init>", desc := "()V" } : Jvm.MethodName) prog_4_method_1_code (1 : Nat) (Option.none : Option Jvm.ClassFile.FieldType)) ∈ zT := zw_tb (zq_tables_1_1 _ (List.mem_of_getElem? (i := 232) rfl)) rfl
theorem zw_342 : (Jvm.Cond.methodLink "NumberDress$Digits" (1 : Nat) ({ cls := "java/lang/Object", name := "<init>", desc := "()V" } : Jvm.MethodName)) ∈ zT := zw_tb (zq_tables_1_1 _ (List.mem_of_getElem? (i := 233) rfl)) rfl
theorem zw_343 : (Jvm.Cond.fieldLink "NumberDress$Digits" (7 : Nat) "NumberDress$Digits" "head" "J") ∈ zT := zw_tb (zq_tables_1_1 _ (List.mem_of_getElem? (i := 234) rfl)) rfl
theorem zw_344 : (Jvm.Cond.fieldLink "NumberDress$Digits" (13 : Nat) "NumberDress$Digits" "zeros" "I") ∈ zT := zw_tb (zq_tables_1_1 _ (List.mem_of_getElem? (i := 235) rfl)) rfl
theorem zw_345 : (Jvm.Cond.fieldLink "NumberDress$Digits" (23 : Nat) "NumberDress$Digits" "count" "I") ∈ zT := zw_tb (zq_tables_1_1 _ (List.mem_of_getElem? (i := 236) rfl)) rfl
theorem zw_346 : (Jvm.Cond.fieldLink "NumberDress$Digits" (26 : Nat) "NumberDress$Digits" "decimals" "I") ∈ zT := zw_tb (zq_tables_1_1 _ (List.mem_of_getElem? (i := 237) rfl)) rfl
theorem zw_356 : (Jvm.Cond.fieldLink "NumberDress$NumberDresser" (12 : Nat) "NumberDress$NumberDresser" "digits" "LNumberDress$Digits;") ∈ zT := zw_tb (zq_tables_1_2 _ (List.mem_of_getElem? (i := 7) rfl)) rfl
theorem zw_357 : (Jvm.Cond.fieldLink "NumberDress$NumberDresser" (18 : Nat) "NumberDress$NumberDresser" "powerDigits" "LNumberDress$Digits;") ∈ zT := zw_tb (zq_tables_1_2 _ (List.mem_of_getElem? (i := 8) rfl)) rfl
theorem zw_358 : (Jvm.Cond.fieldLink "NumberDress$NumberDresser" (82 : Nat) "NumberDress$NumberDresser" "power" "I") ∈ zT := zw_tb (zq_tables_1_2 _ (List.mem_of_getElem? (i := 9) rfl)) rfl
theorem zw_366 : (Jvm.Cond.classLink "NumberDress$Dresser" (18 : Nat) "NumberDress$FractionDresser") ∈ zT := zw_tb (zq_tables_1_2 _ (List.mem_of_getElem? (i := 17) rfl)) rfl
theorem zw_367 : (Jvm.Cond.instantiable "NumberDress$FractionDresser" (5 : Nat)) ∈ zT := zw_tb (zq_tables_1_2 _ (List.mem_of_getElem? (i := 18) rfl)) rfl
theorem zw_369 : (Jvm.Cond.instanceMethod ({ cls := "NumberDress$FractionDresser", name := "<init>", desc := "()V" } : Jvm.MethodName)) ∈ zT := zw_tb (zq_tables_1_2 _ (List.mem_of_getElem? (i := 20) rfl)) rfl
theorem zw_370 : (Jvm.Cond.code ({ cls := "NumberDress$FractionDresser", name := "<init>", desc := "()V" } : Jvm.MethodName) prog_6_method_1_code (1 : Nat) (Option.none : Option Jvm.ClassFile.FieldType)) ∈ zT := zw_tb (zq_tables_1_2 _ (List.mem_of_getElem? (i := 21) rfl)) rfl
theorem zw_371 : (Jvm.Cond.methodLink "NumberDress$FractionDresser" (3 : Nat) ({ cls := "java/lang/Object", name := "<init>", desc := "()V" } : Jvm.MethodName)) ∈ zT := zw_tb (zq_tables_1_2 _ (List.mem_of_getElem? (i := 22) rfl)) rfl
theorem zw_372 : (Jvm.Cond.classLink "NumberDress$FractionDresser" (9 : Nat) "NumberDress$Split") ∈ zT := zw_tb (zq_tables_1_2 _ (List.mem_of_getElem? (i := 23) rfl)) rfl
theorem zw_373 : (Jvm.Cond.instantiable "NumberDress$Split" (2 : Nat)) ∈ zT := zw_tb (zq_tables_1_2 _ (List.mem_of_getElem? (i := 24) rfl)) rfl
theorem zw_375 : (Jvm.Cond.instanceMethod ({ cls := "NumberDress$Split", name := "<init>", desc := "()V" } : Jvm.MethodName)) ∈ zT := zw_tb (zq_tables_1_2 _ (List.mem_of_getElem? (i := 26) rfl)) rfl
theorem zw_376 : (Jvm.Cond.code ({ cls := "NumberDress$Split", name := "<init>", desc := "()V" } : Jvm.MethodName) prog_11_method_1_code (1 : Nat) (Option.none : Option Jvm.ClassFile.FieldType)) ∈ zT := zw_tb (zq_tables_1_2 _ (List.mem_of_getElem? (i := 27) rfl)) rfl
theorem zw_377 : (Jvm.Cond.methodLink "NumberDress$Split" (1 : Nat) ({ cls := "java/lang/Object", name := "<init>", desc := "()V" } : Jvm.MethodName)) ∈ zT := zw_tb (zq_tables_1_2 _ (List.mem_of_getElem? (i := 28) rfl)) rfl
theorem zw_378 : (Jvm.Cond.classLink "NumberDress$Split" (7 : Nat) "NumberDress$Digits") ∈ zT := zw_tb (zq_tables_1_2 _ (List.mem_of_getElem? (i := 29) rfl)) rfl
theorem zw_380 : (Jvm.Cond.fieldLink "NumberDress$Split" (10 : Nat) "NumberDress$Split" "whole" "LNumberDress$Digits;") ∈ zT := zw_tb (zq_tables_1_2 _ (List.mem_of_getElem? (i := 31) rfl)) rfl
theorem zw_381 : (Jvm.Cond.fieldLink "NumberDress$DateDresser" (22 : Nat) "NumberDress$Split" "whole" "LNumberDress$Digits;") ∈ zT := zw_tb (zq_tables_1_2 _ (List.mem_of_getElem? (i := 32) rfl)) rfl
theorem zw_382 : (Jvm.Cond.fieldLink "NumberDress$FractionDresser" (35 : Nat) "NumberDress$Split" "whole" "LNumberDress$Digits;") ∈ zT := zw_tb (zq_tables_1_2 _ (List.mem_of_getElem? (i := 33) rfl)) rfl
theorem zw_383 : (Jvm.Cond.fieldLink "NumberDress$Split" (30 : Nat) "NumberDress$Split" "rest" "J") ∈ zT := zw_tb (zq_tables_1_2 _ (List.mem_of_getElem? (i := 34) rfl)) rfl
theorem zw_384 : (Jvm.Cond.fieldLink "NumberDress$FractionDresser" (92 : Nat) "NumberDress$Split" "rest" "J") ∈ zT := zw_tb (zq_tables_1_2 _ (List.mem_of_getElem? (i := 35) rfl)) rfl
theorem zw_385 : (Jvm.Cond.fieldLink "NumberDress$DateDresser" (103 : Nat) "NumberDress$Split" "rest" "J") ∈ zT := zw_tb (zq_tables_1_2 _ (List.mem_of_getElem? (i := 36) rfl)) rfl
theorem zw_391 : (Jvm.Cond.classLink "NumberDress$FractionDresser" (18 : Nat) "NumberDress$Digits") ∈ zT := zw_tb (zq_tables_1_2 _ (List.mem_of_getElem? (i := 42) rfl)) rfl
theorem zw_393 : (Jvm.Cond.fieldLink "NumberDress$FractionDresser" (12 : Nat) "NumberDress$FractionDresser" "split" "LNumberDress$Split;") ∈ zT := zw_tb (zq_tables_1_2 _ (List.mem_of_getElem? (i := 44) rfl)) rfl
theorem zw_394 : (Jvm.Cond.fieldLink "NumberDress$FractionDresser" (21 : Nat) "NumberDress$FractionDresser" "top" "LNumberDress$Digits;") ∈ zT := zw_tb (zq_tables_1_2 _ (List.mem_of_getElem? (i := 45) rfl)) rfl
theorem zw_395 : (Jvm.Cond.fieldLink "NumberDress$FractionDresser" (51 : Nat) "NumberDress$FractionDresser" "over" "J") ∈ zT := zw_tb (zq_tables_1_2 _ (List.mem_of_getElem? (i := 46) rfl)) rfl
theorem zw_396 : (Jvm.Cond.fieldLink "NumberDress$FractionDresser" (55 : Nat) "NumberDress$FractionDresser" "under" "J") ∈ zT := zw_tb (zq_tables_1_2 _ (List.mem_of_getElem? (i := 47) rfl)) rfl
theorem zw_397 : (Jvm.Cond.fieldLink "NumberDress$FractionDresser" (73 : Nat) "NumberDress$FractionDresser" "gap" "J") ∈ zT := zw_tb (zq_tables_1_2 _ (List.mem_of_getElem? (i := 48) rfl)) rfl
theorem zw_409 : (Jvm.Cond.classLink "NumberDress$Dresser" (25 : Nat) "NumberDress$DateDresser") ∈ zT := zw_tb (zq_tables_1_2 _ (List.mem_of_getElem? (i := 60) rfl)) rfl
theorem zw_410 : (Jvm.Cond.instantiable "NumberDress$DateDresser" (7 : Nat)) ∈ zT := zw_tb (zq_tables_1_2 _ (List.mem_of_getElem? (i := 61) rfl)) rfl
theorem zw_412 : (Jvm.Cond.instanceMethod ({ cls := "NumberDress$DateDresser", name := "<init>", desc := "()V" } : Jvm.MethodName)) ∈ zT := zw_tb (zq_tables_1_2 _ (List.mem_of_getElem? (i := 63) rfl)) rfl
theorem zw_413 : (Jvm.Cond.code ({ cls := "NumberDress$DateDresser", name := "<init>", desc := "()V" } : Jvm.MethodName) prog_3_method_1_code (1 : Nat) (Option.none : Option Jvm.ClassFile.FieldType)) ∈ zT := zw_tb (zq_tables_1_2 _ (List.mem_of_getElem? (i := 64) rfl)) rfl
theorem zw_414 : (Jvm.Cond.methodLink "NumberDress$DateDresser" (3 : Nat) ({ cls := "java/lang/Object", name := "<init>", desc := "()V" } : Jvm.MethodName)) ∈ zT := zw_tb (zq_tables_1_2 _ (List.mem_of_getElem? (i := 65) rfl)) rfl
theorem zw_415 : (Jvm.Cond.classLink "NumberDress$DateDresser" (9 : Nat) "NumberDress$Split") ∈ zT := zw_tb (zq_tables_1_2 _ (List.mem_of_getElem? (i := 66) rfl)) rfl
theorem zw_417 : (Jvm.Cond.fieldLink "NumberDress$DateDresser" (12 : Nat) "NumberDress$DateDresser" "split" "LNumberDress$Split;") ∈ zT := zw_tb (zq_tables_1_2 _ (List.mem_of_getElem? (i := 68) rfl)) rfl
theorem zw_418 : (Jvm.Cond.fieldLink "NumberDress$DateDresser" (47 : Nat) "NumberDress$DateDresser" "days" "J") ∈ zT := zw_tb (zq_tables_1_2 _ (List.mem_of_getElem? (i := 69) rfl)) rfl
theorem zw_419 : (Jvm.Cond.fieldLink "NumberDress$DateDresser" (97 : Nat) "NumberDress$DateDresser" "seconds" "J") ∈ zT := zw_tb (zq_tables_1_2 _ (List.mem_of_getElem? (i := 70) rfl)) rfl
theorem zw_420 : (Jvm.Cond.fieldLink "NumberDress$DateDresser" (100 : Nat) "NumberDress$DateDresser" "thousandths" "J") ∈ zT := zw_tb (zq_tables_1_2 _ (List.mem_of_getElem? (i := 71) rfl)) rfl
theorem zw_421 : (Jvm.Cond.fieldLink "NumberDress$DateDresser" (116 : Nat) "NumberDress$DateDresser" "year" "I") ∈ zT := zw_tb (zq_tables_1_2 _ (List.mem_of_getElem? (i := 72) rfl)) rfl
theorem zw_422 : (Jvm.Cond.fieldLink "NumberDress$DateDresser" (119 : Nat) "NumberDress$DateDresser" "month" "I") ∈ zT := zw_tb (zq_tables_1_2 _ (List.mem_of_getElem? (i := 73) rfl)) rfl
theorem zw_423 : (Jvm.Cond.fieldLink "NumberDress$DateDresser" (122 : Nat) "NumberDress$DateDresser" "day" "I") ∈ zT := zw_tb (zq_tables_1_2 _ (List.mem_of_getElem? (i := 74) rfl)) rfl
theorem zw_439 : (Jvm.Cond.fieldLink "NumberDress$Dresser" (12 : Nat) "NumberDress$Dresser" "numbers" "LNumberDress$NumberDresser;") ∈ zT := zw_tb (zq_tables_1_2 _ (List.mem_of_getElem? (i := 90) rfl)) rfl
theorem zw_440 : (Jvm.Cond.fieldLink "NumberDress$Dresser" (21 : Nat) "NumberDress$Dresser" "fractions" "LNumberDress$FractionDresser;") ∈ zT := zw_tb (zq_tables_1_2 _ (List.mem_of_getElem? (i := 91) rfl)) rfl
theorem zw_441 : (Jvm.Cond.fieldLink "NumberDress$Dresser" (28 : Nat) "NumberDress$Dresser" "dates" "LNumberDress$DateDresser;") ∈ zT := zw_tb (zq_tables_1_2 _ (List.mem_of_getElem? (i := 92) rfl)) rfl
theorem zw_449 : (Jvm.Cond.classLink "NumberDress" (41 : Nat) "NumberDress$Look") ∈ zT := zw_tb (zq_tables_1_2 _ (List.mem_of_getElem? (i := 100) rfl)) rfl
theorem zw_450 : (Jvm.Cond.instantiable "NumberDress$Look" (3 : Nat)) ∈ zT := zw_tb (zq_tables_1_2 _ (List.mem_of_getElem? (i := 101) rfl)) rfl
theorem zw_452 : (Jvm.Cond.instanceMethod ({ cls := "NumberDress$Look", name := "<init>", desc := "()V" } : Jvm.MethodName)) ∈ zT := zw_tb (zq_tables_1_2 _ (List.mem_of_getElem? (i := 103) rfl)) rfl
theorem zw_453 : (Jvm.Cond.code ({ cls := "NumberDress$Look", name := "<init>", desc := "()V" } : Jvm.MethodName) prog_7_method_1_code (1 : Nat) (Option.none : Option Jvm.ClassFile.FieldType)) ∈ zT := zw_tb (zq_tables_1_2 _ (List.mem_of_getElem? (i := 104) rfl)) rfl
theorem zw_454 : (Jvm.Cond.methodLink "NumberDress$Look" (3 : Nat) ({ cls := "java/lang/Object", name := "<init>", desc := "()V" } : Jvm.MethodName)) ∈ zT := zw_tb (zq_tables_1_2 _ (List.mem_of_getElem? (i := 105) rfl)) rfl
theorem zw_455 : (Jvm.Cond.fieldLink "NumberDress$Look" (9 : Nat) "NumberDress$Look" "row" "[C") ∈ zT := zw_tb (zq_tables_1_2 _ (List.mem_of_getElem? (i := 106) rfl)) rfl
theorem zw_456 : (Jvm.Cond.fieldLink "NumberDress$Look" (15 : Nat) "NumberDress$Look" "length" "I") ∈ zT := zw_tb (zq_tables_1_2 _ (List.mem_of_getElem? (i := 107) rfl)) rfl
theorem zw_457 : (Jvm.Cond.fieldLink "NumberDress" (94 : Nat) "NumberDress$Look" "length" "I") ∈ zT := zw_tb (zq_tables_1_2 _ (List.mem_of_getElem? (i := 108) rfl)) rfl
theorem zw_458 : (Jvm.Cond.fieldLink "NumberDress$Dresser" (32 : Nat) "NumberDress$Look" "done" "Z") ∈ zT := zw_tb (zq_tables_1_2 _ (List.mem_of_getElem? (i := 109) rfl)) rfl
theorem zw_459 : (Jvm.Cond.fieldLink "NumberDress" (72 : Nat) "NumberDress$Look" "done" "Z") ∈ zT := zw_tb (zq_tables_1_2 _ (List.mem_of_getElem? (i := 110) rfl)) rfl
theorem zw_467 : (Jvm.Cond.fieldLink "NumberDress" (9 : Nat) "NumberDress" "typed" "[C") ∈ zT := zw_tb (zq_tables_1_2 _ (List.mem_of_getElem? (i := 118) rfl)) rfl
theorem zw_468 : (Jvm.Cond.fieldLink "NumberDress" (55 : Nat) "NumberDress" "typedLength" "I") ∈ zT := zw_tb (zq_tables_1_2 _ (List.mem_of_getElem? (i := 119) rfl)) rfl
theorem zw_469 : (Jvm.Cond.fieldLink "NumberDress" (16 : Nat) "NumberDress" "current" "LNumberDress$Code;") ∈ zT := zw_tb (zq_tables_1_2 _ (List.mem_of_getElem? (i := 120) rfl)) rfl
theorem zw_470 : (Jvm.Cond.fieldLink "NumberDress" (23 : Nat) "NumberDress" "reader" "LNumberDress$Reader;") ∈ zT := zw_tb (zq_tables_1_2 _ (List.mem_of_getElem? (i := 121) rfl)) rfl
theorem zw_471 : (Jvm.Cond.fieldLink "NumberDress" (30 : Nat) "NumberDress" "value" "LNumberDress$Value;") ∈ zT := zw_tb (zq_tables_1_2 _ (List.mem_of_getElem? (i := 122) rfl)) rfl
theorem zw_472 : (Jvm.Cond.fieldLink "NumberDress" (37 : Nat) "NumberDress" "dresser" "LNumberDress$Dresser;") ∈ zT := zw_tb (zq_tables_1_2 _ (List.mem_of_getElem? (i := 123) rfl)) rfl
theorem zw_473 : (Jvm.Cond.fieldLink "NumberDress" (44 : Nat) "NumberDress" "shown" "LNumberDress$Look;") ∈ zT := zw_tb (zq_tables_1_2 _ (List.mem_of_getElem? (i := 124) rfl)) rfl
theorem zw_489 : (Jvm.Cond.methodLink "NumberDressLaw" (34 : Nat) ({ cls := "NumberDress", name := "erase", desc := "()V" } : Jvm.MethodName)) ∈ zT := zw_tb (zq_tables_1_2 _ (List.mem_of_getElem? (i := 140) rfl)) rfl
theorem zw_490 : (Jvm.Cond.instanceMethod ({ cls := "NumberDress", name := "erase", desc := "()V" } : Jvm.MethodName)) ∈ zT := zw_tb (zq_tables_1_2 _ (List.mem_of_getElem? (i := 141) rfl)) rfl
theorem zw_491 : (Jvm.Cond.selects "NumberDress" ({ cls := "NumberDress", name := "erase", desc := "()V" } : Jvm.MethodName) ({ cls := "NumberDress", name := "erase", desc := "()V" } : Jvm.MethodName)) ∈ zT := zw_tb (zq_tables_1_2 _ (List.mem_of_getElem? (i := 142) rfl)) rfl
theorem zw_492 : (Jvm.Cond.code ({ cls := "NumberDress", name := "erase", desc := "()V" } : Jvm.MethodName) prog_1_method_3_code (1 : Nat) (Option.none : Option Jvm.ClassFile.FieldType)) ∈ zT := zw_tb (zq_tables_1_2 _ (List.mem_of_getElem? (i := 143) rfl)) rfl
theorem zw_493 : (Jvm.Cond.methodLink "NumberDressLaw" (38 : Nat) ({ cls := "NumberDress", name := "code", desc := "()I" } : Jvm.MethodName)) ∈ zT := zw_tb (zq_tables_1_2 _ (List.mem_of_getElem? (i := 144) rfl)) rfl
theorem zw_494 : (Jvm.Cond.instanceMethod ({ cls := "NumberDress", name := "code", desc := "()I" } : Jvm.MethodName)) ∈ zT := zw_tb (zq_tables_1_2 _ (List.mem_of_getElem? (i := 145) rfl)) rfl
theorem zw_495 : (Jvm.Cond.selects "NumberDress" ({ cls := "NumberDress", name := "code", desc := "()I" } : Jvm.MethodName) ({ cls := "NumberDress", name := "code", desc := "()I" } : Jvm.MethodName)) ∈ zT := zw_tb (zq_tables_1_2 _ (List.mem_of_getElem? (i := 146) rfl)) rfl
theorem zw_496 : (Jvm.Cond.code ({ cls := "NumberDress", name := "code", desc := "()I" } : Jvm.MethodName) prog_1_method_4_code (2 : Nat) (Option.some Jvm.ClassFile.FieldType.int)) ∈ zT := zw_tb (zq_tables_1_2 _ (List.mem_of_getElem? (i := 147) rfl)) rfl
theorem zw_497 : (Jvm.Cond.methodLink "NumberDress" (64 : Nat) ({ cls := "NumberDress$Reader", name := "read", desc := "([CI)I" } : Jvm.MethodName)) ∈ zT := zw_tb (zq_tables_1_2 _ (List.mem_of_getElem? (i := 148) rfl)) rfl
theorem zw_498 : (Jvm.Cond.instanceMethod ({ cls := "NumberDress$Reader", name := "read", desc := "([CI)I" } : Jvm.MethodName)) ∈ zT := zw_tb (zq_tables_1_2 _ (List.mem_of_getElem? (i := 149) rfl)) rfl
theorem zw_499 : (Jvm.Cond.selects "NumberDress$Reader" ({ cls := "NumberDress$Reader", name := "read", desc := "([CI)I" } : Jvm.MethodName) ({ cls := "NumberDress$Reader", name := "read", desc := "([CI)I" } : Jvm.MethodName)) ∈ zT := zw_tb (zq_tables_1_2 _ (List.mem_of_getElem? (i := 150) rfl)) rfl
theorem zw_500 : (Jvm.Cond.code ({ cls := "NumberDress$Reader", name := "read", desc := "([CI)I" } : Jvm.MethodName) prog_9_method_2_code (7 : Nat) (Option.some Jvm.ClassFile.FieldType.int)) ∈ zT := zw_tb (zq_tables_1_2 _ (List.mem_of_getElem? (i := 151) rfl)) rfl
theorem zw_501 : (Jvm.Cond.methodLink "NumberDress$Reader" (29 : Nat) ({ cls := "java/lang/Math", name := "min", desc := "(II)I" } : Jvm.MethodName)) ∈ zT := zw_tb (zq_tables_1_2 _ (List.mem_of_getElem? (i := 152) rfl)) rfl
theorem zw_502 : (Jvm.Cond.static ({ cls := "java/lang/Math", name := "min", desc := "(II)I" } : Jvm.MethodName)) ∈ zT := zw_tb (zq_tables_1_2 _ (List.mem_of_getElem? (i := 153) rfl)) rfl
theorem zw_503 : (Jvm.Cond.code ({ cls := "java/lang/Math", name := "min", desc := "(II)I" } : Jvm.MethodName) prog_19_method_69_code (2 : Nat) (Option.some Jvm.ClassFile.FieldType.int)) ∈ zT := zw_tb (zq_tables_1_2 _ (List.mem_of_getElem? (i := 154) rfl)) rfl
theorem zw_504 : (Jvm.Cond.methodLink "NumberDress$Reader" (39 : Nat) ({ cls := "NumberDress$Code", name := "clear", desc := "()V" } : Jvm.MethodName)) ∈ zT := zw_tb (zq_tables_1_2 _ (List.mem_of_getElem? (i := 155) rfl)) rfl
theorem zw_505 : (Jvm.Cond.instanceMethod ({ cls := "NumberDress$Code", name := "clear", desc := "()V" } : Jvm.MethodName)) ∈ zT := zw_tb (zq_tables_1_2 _ (List.mem_of_getElem? (i := 156) rfl)) rfl
theorem zw_506 : (Jvm.Cond.selects "NumberDress$Code" ({ cls := "NumberDress$Code", name := "clear", desc := "()V" } : Jvm.MethodName) ({ cls := "NumberDress$Code", name := "clear", desc := "()V" } : Jvm.MethodName)) ∈ zT := zw_tb (zq_tables_1_2 _ (List.mem_of_getElem? (i := 157) rfl)) rfl
theorem zw_507 : (Jvm.Cond.code ({ cls := "NumberDress$Code", name := "clear", desc := "()V" } : Jvm.MethodName) prog_2_method_2_code (1 : Nat) (Option.none : Option Jvm.ClassFile.FieldType)) ∈ zT := zw_tb (zq_tables_1_2 _ (List.mem_of_getElem? (i := 158) rfl)) rfl
theorem zw_508 : (Jvm.Cond.methodLink "NumberDress$Reader" (42 : Nat) ({ cls := "NumberDress$Reader", name := "sectionEnd", desc := "(I)I" } : Jvm.MethodName)) ∈ zT := zw_tb (zq_tables_1_2 _ (List.mem_of_getElem? (i := 159) rfl)) rfl
theorem zw_510 : (Jvm.Cond.instanceMethod ({ cls := "NumberDress$Reader", name := "sectionEnd", desc := "(I)I" } : Jvm.MethodName)) ∈ zT := zw_tb (zq_tables_1_2 _ (List.mem_of_getElem? (i := 161) rfl)) rfl
theorem zw_511 : (Jvm.Cond.code ({ cls := "NumberDress$Reader", name := "sectionEnd", desc := "(I)I" } : Jvm.MethodName) prog_9_method_5_code (3 : Nat) (Option.some Jvm.ClassFile.FieldType.int)) ∈ zT := zw_tb (zq_tables_1_2 _ (List.mem_of_getElem? (i := 162) rfl)) rfl
theorem zw_512 : (Jvm.Cond.methodLink "NumberDress$Reader" (86 : Nat) ({ cls := "NumberDress$Reader", name := "sign", desc := "(I)C" } : Jvm.MethodName)) ∈ zT := zw_tb (zq_tables_1_2 _ (List.mem_of_getElem? (i := 163) rfl)) rfl
theorem zw_514 : (Jvm.Cond.instanceMethod ({ cls := "NumberDress$Reader", name := "sign", desc := "(I)C" } : Jvm.MethodName)) ∈ zT := zw_tb (zq_tables_1_2 _ (List.mem_of_getElem? (i := 165) rfl)) rfl
theorem zw_515 : (Jvm.Cond.code ({ cls := "NumberDress$Reader", name := "sign", desc := "(I)C" } : Jvm.MethodName) prog_9_method_34_code (2 : Nat) (Option.some Jvm.ClassFile.FieldType.char)) ∈ zT := zw_tb (zq_tables_1_2 _ (List.mem_of_getElem? (i := 166) rfl)) rfl
theorem zw_516 : (Jvm.Cond.methodLink "NumberDress$Reader" (90 : Nat) ({ cls := "NumberDress$Reader", name := "commonLength", desc := "(I)I" } : Jvm.MethodName)) ∈ zT := zw_tb (zq_tables_1_2 _ (List.mem_of_getElem? (i := 167) rfl)) rfl
theorem zw_518 : (Jvm.Cond.instanceMethod ({ cls := "NumberDress$Reader", name := "commonLength", desc := "(I)I" } : Jvm.MethodName)) ∈ zT := zw_tb (zq_tables_1_2 _ (List.mem_of_getElem? (i := 169) rfl)) rfl
theorem zw_519 : (Jvm.Cond.code ({ cls := "NumberDress$Reader", name := "commonLength", desc := "(I)I" } : Jvm.MethodName) prog_9_method_9_code (3 : Nat) (Option.some Jvm.ClassFile.FieldType.int)) ∈ zT := zw_tb (zq_tables_1_2 _ (List.mem_of_getElem? (i := 170) rfl)) rfl
theorem zw_520 : (Jvm.Cond.methodLink "NumberDress$Reader" (130 : Nat) ({ cls := "NumberDress$Reader", name := "quotesLength", desc := "(I)I" } : Jvm.MethodName)) ∈ zT := zw_tb (zq_tables_1_2 _ (List.mem_of_getElem? (i := 171) rfl)) rfl
theorem zw_522 : (Jvm.Cond.instanceMethod ({ cls := "NumberDress$Reader", name := "quotesLength", desc := "(I)I" } : Jvm.MethodName)) ∈ zT := zw_tb (zq_tables_1_2 _ (List.mem_of_getElem? (i := 173) rfl)) rfl
theorem zw_523 : (Jvm.Cond.code ({ cls := "NumberDress$Reader", name := "quotesLength", desc := "(I)I" } : Jvm.MethodName) prog_9_method_11_code (3 : Nat) (Option.some Jvm.ClassFile.FieldType.int)) ∈ zT := zw_tb (zq_tables_1_2 _ (List.mem_of_getElem? (i := 174) rfl)) rfl
theorem zw_524 : (Jvm.Cond.methodLink "NumberDress$Reader" (133 : Nat) ({ cls := "NumberDress$Reader", name := "colourLength", desc := "(I)I" } : Jvm.MethodName)) ∈ zT := zw_tb (zq_tables_1_2 _ (List.mem_of_getElem? (i := 175) rfl)) rfl
theorem zw_526 : (Jvm.Cond.instanceMethod ({ cls := "NumberDress$Reader", name := "colourLength", desc := "(I)I" } : Jvm.MethodName)) ∈ zT := zw_tb (zq_tables_1_2 _ (List.mem_of_getElem? (i := 177) rfl)) rfl
theorem zw_527 : (Jvm.Cond.code ({ cls := "NumberDress$Reader", name := "colourLength", desc := "(I)I" } : Jvm.MethodName) prog_9_method_12_code (4 : Nat) (Option.some Jvm.ClassFile.FieldType.int)) ∈ zT := zw_tb (zq_tables_1_2 _ (List.mem_of_getElem? (i := 178) rfl)) rfl
theorem zw_528 : (Jvm.Cond.methodLink "NumberDress$Reader" (142 : Nat) ({ cls := "NumberDress$Reader", name := "colour", desc := "(I)Ljava/lang/String;" } : Jvm.MethodName)) ∈ zT := zw_tb (zq_tables_1_2 _ (List.mem_of_getElem? (i := 179) rfl)) rfl
theorem zw_529 : (Jvm.Cond.static ({ cls := "NumberDress$Reader", name := "colour", desc := "(I)Ljava/lang/String;" } : Jvm.MethodName)) ∈ zT := zw_tb (zq_tables_1_2 _ (List.mem_of_getElem? (i := 180) rfl)) rfl
theorem zw_530 : (Jvm.Cond.code ({ cls := "NumberDress$Reader", name := "colour", desc := "(I)Ljava/lang/String;" } : Jvm.MethodName) prog_9_method_44_code (1 : Nat) (Option.some (Jvm.ClassFile.FieldType.object "java/lang/String"))) ∈ zT := zw_tb (zq_tables_1_2 _ (List.mem_of_getElem? (i := 181) rfl)) rfl
theorem zw_539 : (Jvm.Cond.methodLink "NumberDress$Reader" (59 : Nat) ({ cls := "NumberDress$Reader", name := "goesOn", desc := "(ILjava/lang/String;)Z" } : Jvm.MethodName)) ∈ zT := zw_tb (zq_tables_1_2 _ (List.mem_of_getElem? (i := 190) rfl)) rfl
theorem zw_541 : (Jvm.Cond.instanceMethod ({ cls := "NumberDress$Reader", name := "goesOn", desc := "(ILjava/lang/String;)Z" } : Jvm.MethodName)) ∈ zT := zw_tb (zq_tables_1_2 _ (List.mem_of_getElem? (i := 192) rfl)) rfl
theorem zw_542 : (Jvm.Cond.code ({ cls := "NumberDress$Reader", name := "goesOn", desc := "(ILjava/lang/String;)Z" } : Jvm.MethodName) prog_9_method_36_code (4 : Nat) (Option.some Jvm.ClassFile.FieldType.boolean)) ∈ zT := zw_tb (zq_tables_1_2 _ (List.mem_of_getElem? (i := 193) rfl)) rfl
theorem zw_543 : (Jvm.Cond.methodLink "NumberDress$Reader" (146 : Nat) ({ cls := "java/lang/String", name := "length", desc := "()I" } : Jvm.MethodName)) ∈ zT := zw_tb (zq_tables_1_2 _ (List.mem_of_getElem? (i := 194) rfl)) rfl
theorem zw_544 : (Jvm.Cond.instanceMethod ({ cls := "java/lang/String", name := "length", desc := "()I" } : Jvm.MethodName)) ∈ zT := zw_tb (zq_tables_1_2 _ (List.mem_of_getElem? (i := 195) rfl)) rfl
theorem zw_545 : (Jvm.Cond.selects "java/lang/String" ({ cls := "java/lang/String", name := "length", desc := "()I" } : Jvm.MethodName) ({ cls := "java/lang/String", name := "length", desc := "()I" } : Jvm.MethodName)) ∈ zT := zw_tb (zq_tables_1_2 _ (List.mem_of_getElem? (i := 196) rfl)) rfl
theorem zw_546 : (Jvm.Cond.code ({ cls := "java/lang/String", name := "length", desc := "()I" } : Jvm.MethodName) prog_21_method_54_code (1 : Nat) (Option.some Jvm.ClassFile.FieldType.int)) ∈ zT := zw_tb (zq_tables_1_2 _ (List.mem_of_getElem? (i := 197) rfl)) rfl
theorem zw_547 : (Jvm.Cond.methodLink "java/lang/String" (335 : Nat) ({ cls := "java/lang/String", name := "coder", desc := "()B" } : Jvm.MethodName)) ∈ zT := zw_tb (zq_tables_1_2 _ (List.mem_of_getElem? (i := 198) rfl)) rfl
theorem zw_548 : (Jvm.Cond.instanceMethod ({ cls := "java/lang/String", name := "coder", desc := "()B" } : Jvm.MethodName)) ∈ zT := zw_tb (zq_tables_1_2 _ (List.mem_of_getElem? (i := 199) rfl)) rfl
theorem zw_549 : (Jvm.Cond.selects "java/lang/String" ({ cls := "java/lang/String", name := "coder", desc := "()B" } : Jvm.MethodName) ({ cls := "java/lang/String", name := "coder", desc := "()B" } : Jvm.MethodName)) ∈ zT := zw_tb (zq_tables_1_2 _ (List.mem_of_getElem? (i := 200) rfl)) rfl
theorem zw_550 : (Jvm.Cond.code ({ cls := "java/lang/String", name := "coder", desc := "()B" } : Jvm.MethodName) prog_21_method_152_code (1 : Nat) (Option.some Jvm.ClassFile.FieldType.byte)) ∈ zT := zw_tb (zq_tables_1_2 _ (List.mem_of_getElem? (i := 201) rfl)) rfl
theorem zw_551 : (Jvm.Cond.fieldLink "java/lang/String" (38 : Nat) "java/lang/String" "COMPACT_STRINGS" "Z") ∈ zT := zw_tb (zq_tables_1_2 _ (List.mem_of_getElem? (i := 202) rfl)) rfl
theorem zw_553 : (Jvm.Cond.methodLink "NumberDress$Reader" (99 : Nat) ({ cls := "NumberDress$Reader", name := "small", desc := "(I)C" } : Jvm.MethodName)) ∈ zT := zw_tb (zq_tables_1_2 _ (List.mem_of_getElem? (i := 204) rfl)) rfl
theorem zw_555 : (Jvm.Cond.instanceMethod ({ cls := "NumberDress$Reader", name := "small", desc := "(I)C" } : Jvm.MethodName)) ∈ zT := zw_tb (zq_tables_1_2 _ (List.mem_of_getElem? (i := 206) rfl)) rfl
theorem zw_556 : (Jvm.Cond.code ({ cls := "NumberDress$Reader", name := "small", desc := "(I)C" } : Jvm.MethodName) prog_9_method_35_code (3 : Nat) (Option.some Jvm.ClassFile.FieldType.char)) ∈ zT := zw_tb (zq_tables_1_2 _ (List.mem_of_getElem? (i := 207) rfl)) rfl
theorem zw_557 : (Jvm.Cond.methodLink "NumberDress$Reader" (259 : Nat) ({ cls := "java/lang/String", name := "charAt", desc := "(I)C" } : Jvm.MethodName)) ∈ zT := zw_tb (zq_tables_1_2 _ (List.mem_of_getElem? (i := 208) rfl)) rfl
theorem zw_558 : (Jvm.Cond.instanceMethod ({ cls := "java/lang/String", name := "charAt", desc := "(I)C" } : Jvm.MethodName)) ∈ zT := zw_tb (zq_tables_1_2 _ (List.mem_of_getElem? (i := 209) rfl)) rfl
theorem zw_559 : (Jvm.Cond.selects "java/lang/String" ({ cls := "java/lang/String", name := "charAt", desc := "(I)C" } : Jvm.MethodName) ({ cls := "java/lang/String", name := "charAt", desc := "(I)C" } : Jvm.MethodName)) ∈ zT := zw_tb (zq_tables_1_2 _ (List.mem_of_getElem? (i := 210) rfl)) rfl
theorem zw_560 : (Jvm.Cond.code ({ cls := "java/lang/String", name := "charAt", desc := "(I)C" } : Jvm.MethodName) prog_21_method_56_code (2 : Nat) (Option.some Jvm.ClassFile.FieldType.char)) ∈ zT := zw_tb (zq_tables_1_2 _ (List.mem_of_getElem? (i := 211) rfl)) rfl
theorem zw_561 : (Jvm.Cond.methodLink "java/lang/String" (492 : Nat) ({ cls := "java/lang/String", name := "isLatin1", desc := "()Z" } : Jvm.MethodName)) ∈ zT := zw_tb (zq_tables_1_2 _ (List.mem_of_getElem? (i := 212) rfl)) rfl
theorem zw_562 : (Jvm.Cond.instanceMethod ({ cls := "java/lang/String", name := "isLatin1", desc := "()Z" } : Jvm.MethodName)) ∈ zT := zw_tb (zq_tables_1_2 _ (List.mem_of_getElem? (i := 213) rfl)) rfl
theorem zw_563 : (Jvm.Cond.selects "java/lang/String" ({ cls := "java/lang/String", name := "isLatin1", desc := "()Z" } : Jvm.MethodName) ({ cls := "java/lang/String", name := "isLatin1", desc := "()Z" } : Jvm.MethodName)) ∈ zT := zw_tb (zq_tables_1_2 _ (List.mem_of_getElem? (i := 214) rfl)) rfl
theorem zw_564 : (Jvm.Cond.code ({ cls := "java/lang/String", name := "isLatin1", desc := "()Z" } : Jvm.MethodName) prog_21_method_154_code (1 : Nat) (Option.some Jvm.ClassFile.FieldType.boolean)) ∈ zT := zw_tb (zq_tables_1_2 _ (List.mem_of_getElem? (i := 215) rfl)) rfl
theorem zw_565 : (Jvm.Cond.methodLink "java/lang/String" (495 : Nat) ({ cls := "java/lang/StringLatin1", name := "charAt", desc := "([BI)C" } : Jvm.MethodName)) ∈ zT := zw_tb (zq_tables_1_2 _ (List.mem_of_getElem? (i := 216) rfl)) rfl
theorem zw_566 : (Jvm.Cond.static ({ cls := "java/lang/StringLatin1", name := "charAt", desc := "([BI)C" } : Jvm.MethodName)) ∈ zT := zw_tb (zq_tables_1_2 _ (List.mem_of_getElem? (i := 217) rfl)) rfl
theorem zw_567 : (Jvm.Cond.code ({ cls := "java/lang/StringLatin1", name := "charAt", desc := "([BI)C" } : Jvm.MethodName) prog_22_method_2_code (2 : Nat) (Option.some Jvm.ClassFile.FieldType.char)) ∈ zT := zw_tb (zq_tables_1_2 _ (List.mem_of_getElem? (i := 218) rfl)) rfl
theorem zw_568 : (Jvm.Cond.methodLink "java/lang/StringLatin1" (9 : Nat) ({ cls := "java/lang/String", name := "checkIndex", desc := "(II)V" } : Jvm.MethodName)) ∈ zT := zw_tb (zq_tables_1_2 _ (List.mem_of_getElem? (i := 219) rfl)) rfl
theorem zw_569 : (Jvm.Cond.static ({ cls := "java/lang/String", name := "checkIndex", desc := "(II)V" } : Jvm.MethodName)) ∈ zT := zw_tb (zq_tables_1_2 _ (List.mem_of_getElem? (i := 220) rfl)) rfl
theorem zw_570 : (Jvm.Cond.code ({ cls := "java/lang/String", name := "checkIndex", desc := "(II)V" } : Jvm.MethodName) prog_21_method_155_code (2 : Nat) (Option.none : Option Jvm.ClassFile.FieldType)) ∈ zT := zw_tb (zq_tables_1_2 _ (List.mem_of_getElem? (i := 221) rfl)) rfl
theorem zw_571 : (Jvm.Cond.fieldLink "java/lang/String" (1053 : Nat) "jdk/internal/util/Preconditions" "SIOOBE_FORMATTER" "Ljava/util/function/BiFunction;") ∈ zT := zw_tb (zq_tables_1_2 _ (List.mem_of_getElem? (i := 222) rfl)) rfl
theorem zw_573 : (Jvm.Cond.methodLink "java/lang/String" (1059 : Nat) ({ cls := "jdk/internal/util/Preconditions", name := "checkIndex", desc := "(IILjava/util/function/BiFunction;)I" } : Jvm.MethodName)) ∈ zT := zw_tb (zq_tables_1_2 _ (List.mem_of_getElem? (i := 224) rfl)) rfl
theorem zw_574 : (Jvm.Cond.static ({ cls := "jdk/internal/util/Preconditions", name := "checkIndex", desc := "(IILjava/util/function/BiFunction;)I" } : Jvm.MethodName)) ∈ zT := zw_tb (zq_tables_1_2 _ (List.mem_of_getElem? (i := 225) rfl)) rfl
theorem zw_575 : (Jvm.Cond.code ({ cls := "jdk/internal/util/Preconditions", name := "checkIndex", desc := "(IILjava/util/function/BiFunction;)I" } : Jvm.MethodName) prog_26_method_11_code (3 : Nat) (Option.some Jvm.ClassFile.FieldType.int)) ∈ zT := zw_tb (zq_tables_1_2 _ (List.mem_of_getElem? (i := 226) rfl)) rfl
theorem zw_595 : (Jvm.Cond.methodLink "NumberDress$Reader" (136 : Nat) ({ cls := "NumberDress$Reader", name := "isOwnLiteral", desc := "(C)Z" } : Jvm.MethodName)) ∈ zT := zw_tb (zq_tables_1_3 _ (List.mem_of_getElem? (i := 6) rfl)) rfl
theorem zw_596 : (Jvm.Cond.static ({ cls := "NumberDress$Reader", name := "isOwnLiteral", desc := "(C)Z" } : Jvm.MethodName)) ∈ zT := zw_tb (zq_tables_1_3 _ (List.mem_of_getElem? (i := 7) rfl)) rfl
theorem zw_597 : (Jvm.Cond.code ({ cls := "NumberDress$Reader", name := "isOwnLiteral", desc := "(C)Z" } : Jvm.MethodName) prog_9_method_43_code (1 : Nat) (Option.some Jvm.ClassFile.FieldType.boolean)) ∈ zT := zw_tb (zq_tables_1_3 _ (List.mem_of_getElem? (i := 8) rfl)) rfl
theorem zw_599 : (Jvm.Cond.methodLink "NumberDress$Reader" (268 : Nat) ({ cls := "java/lang/String", name := "indexOf", desc := "(I)I" } : Jvm.MethodName)) ∈ zT := zw_tb (zq_tables_1_3 _ (List.mem_of_getElem? (i := 10) rfl)) rfl
theorem zw_600 : (Jvm.Cond.instanceMethod ({ cls := "java/lang/String", name := "indexOf", desc := "(I)I" } : Jvm.MethodName)) ∈ zT := zw_tb (zq_tables_1_3 _ (List.mem_of_getElem? (i := 11) rfl)) rfl
theorem zw_601 : (Jvm.Cond.selects "java/lang/String" ({ cls := "java/lang/String", name := "indexOf", desc := "(I)I" } : Jvm.MethodName) ({ cls := "java/lang/String", name := "indexOf", desc := "(I)I" } : Jvm.MethodName)) ∈ zT := zw_tb (zq_tables_1_3 _ (List.mem_of_getElem? (i := 12) rfl)) rfl
theorem zw_602 : (Jvm.Cond.code ({ cls := "java/lang/String", name := "indexOf", desc := "(I)I" } : Jvm.MethodName) prog_21_method_79_code (2 : Nat) (Option.some Jvm.ClassFile.FieldType.int)) ∈ zT := zw_tb (zq_tables_1_3 _ (List.mem_of_getElem? (i := 13) rfl)) rfl
theorem zw_603 : (Jvm.Cond.methodLink "java/lang/String" (633 : Nat) ({ cls := "java/lang/String", name := "indexOf", desc := "(II)I" } : Jvm.MethodName)) ∈ zT := zw_tb (zq_tables_1_3 _ (List.mem_of_getElem? (i := 14) rfl)) rfl
theorem zw_604 : (Jvm.Cond.instanceMethod ({ cls := "java/lang/String", name := "indexOf", desc := "(II)I" } : Jvm.MethodName)) ∈ zT := zw_tb (zq_tables_1_3 _ (List.mem_of_getElem? (i := 15) rfl)) rfl
theorem zw_605 : (Jvm.Cond.selects "java/lang/String" ({ cls := "java/lang/String", name := "indexOf", desc := "(II)I" } : Jvm.MethodName) ({ cls := "java/lang/String", name := "indexOf", desc := "(II)I" } : Jvm.MethodName)) ∈ zT := zw_tb (zq_tables_1_3 _ (List.mem_of_getElem? (i := 16) rfl)) rfl
theorem zw_606 : (Jvm.Cond.code ({ cls := "java/lang/String", name := "indexOf", desc := "(II)I" } : Jvm.MethodName) prog_21_method_80_code (3 : Nat) (Option.some Jvm.ClassFile.FieldType.int)) ∈ zT := zw_tb (zq_tables_1_3 _ (List.mem_of_getElem? (i := 17) rfl)) rfl
theorem zw_607 : (Jvm.Cond.methodLink "java/lang/String" (505 : Nat) ({ cls := "java/lang/String", name := "length", desc := "()I" } : Jvm.MethodName)) ∈ zT := zw_tb (zq_tables_1_3 _ (List.mem_of_getElem? (i := 18) rfl)) rfl
theorem zw_608 : (Jvm.Cond.methodLink "java/lang/String" (637 : Nat) ({ cls := "java/lang/StringLatin1", name := "indexOf", desc := "([BIII)I" } : Jvm.MethodName)) ∈ zT := zw_tb (zq_tables_1_3 _ (List.mem_of_getElem? (i := 19) rfl)) rfl
theorem zw_609 : (Jvm.Cond.static ({ cls := "java/lang/StringLatin1", name := "indexOf", desc := "([BIII)I" } : Jvm.MethodName)) ∈ zT := zw_tb (zq_tables_1_3 _ (List.mem_of_getElem? (i := 20) rfl)) rfl
theorem zw_610 : (Jvm.Cond.code ({ cls := "java/lang/StringLatin1", name := "indexOf", desc := "([BIII)I" } : Jvm.MethodName) prog_22_method_22_code (4 : Nat) (Option.some Jvm.ClassFile.FieldType.int)) ∈ zT := zw_tb (zq_tables_1_3 _ (List.mem_of_getElem? (i := 21) rfl)) rfl
theorem zw_611 : (Jvm.Cond.methodLink "java/lang/StringLatin1" (88 : Nat) ({ cls := "java/lang/StringLatin1", name := "canEncode", desc := "(I)Z" } : Jvm.MethodName)) ∈ zT := zw_tb (zq_tables_1_3 _ (List.mem_of_getElem? (i := 22) rfl)) rfl
theorem zw_612 : (Jvm.Cond.static ({ cls := "java/lang/StringLatin1", name := "canEncode", desc := "(I)Z" } : Jvm.MethodName)) ∈ zT := zw_tb (zq_tables_1_3 _ (List.mem_of_getElem? (i := 23) rfl)) rfl
theorem zw_613 : (Jvm.Cond.code ({ cls := "java/lang/StringLatin1", name := "canEncode", desc := "(I)Z" } : Jvm.MethodName) prog_22_method_4_code (1 : Nat) (Option.some Jvm.ClassFile.FieldType.boolean)) ∈ zT := zw_tb (zq_tables_1_3 _ (List.mem_of_getElem? (i := 24) rfl)) rfl
theorem zw_614 : (Jvm.Cond.methodLink "java/lang/StringLatin1" (92 : Nat) ({ cls := "java/lang/Math", name := "max", desc := "(II)I" } : Jvm.MethodName)) ∈ zT := zw_tb (zq_tables_1_3 _ (List.mem_of_getElem? (i := 25) rfl)) rfl
theorem zw_615 : (Jvm.Cond.static ({ cls := "java/lang/Math", name := "max", desc := "(II)I" } : Jvm.MethodName)) ∈ zT := zw_tb (zq_tables_1_3 _ (List.mem_of_getElem? (i := 26) rfl)) rfl
theorem zw_616 : (Jvm.Cond.code ({ cls := "java/lang/Math", name := "max", desc := "(II)I" } : Jvm.MethodName) prog_19_method_65_code (2 : Nat) (Option.some Jvm.ClassFile.FieldType.int)) ∈ zT := zw_tb (zq_tables_1_3 _ (List.mem_of_getElem? (i := 27) rfl)) rfl
theorem zw_617 : (Jvm.Cond.methodLink "java/lang/StringLatin1" (38 : Nat) ({ cls := "java/lang/Math", name := "min", desc := "(II)I" } : Jvm.MethodName)) ∈ zT := zw_tb (zq_tables_1_3 _ (List.mem_of_getElem? (i := 28) rfl)) rfl
theorem zw_618 : (Jvm.Cond.methodLink "java/lang/StringLatin1" (95 : Nat) ({ cls := "java/lang/StringLatin1", name := "indexOfChar", desc := "([BIII)I" } : Jvm.MethodName)) ∈ zT := zw_tb (zq_tables_1_3 _ (List.mem_of_getElem? (i := 29) rfl)) rfl
theorem zw_619 : (Jvm.Cond.static ({ cls := "java/lang/StringLatin1", name := "indexOfChar", desc := "([BIII)I" } : Jvm.MethodName)) ∈ zT := zw_tb (zq_tables_1_3 _ (List.mem_of_getElem? (i := 30) rfl)) rfl
theorem zw_620 : (Jvm.Cond.code ({ cls := "java/lang/StringLatin1", name := "indexOfChar", desc := "([BIII)I" } : Jvm.MethodName) prog_22_method_23_code (6 : Nat) (Option.some Jvm.ClassFile.FieldType.int)) ∈ zT := zw_tb (zq_tables_1_3 _ (List.mem_of_getElem? (i := 31) rfl)) rfl
theorem zw_635 : (Jvm.Cond.code ({ cls := "java/lang/String", name := "checkBoundsBeginEnd", desc := "(III)V" } : Jvm.MethodName) prog_21_method_158_code (3 : Nat) (Option.none : Option Jvm.ClassFile.FieldType)) ∈ zT := zw_tb (zq_tables_1_3 _ (List.mem_of_getElem? (i := 46) rfl)) rfl
theorem zw_636 : (Jvm.Cond.methodLink "java/lang/String" (1062 : Nat) ({ cls := "jdk/internal/util/Preconditions", name := "checkFromToIndex", desc := "(IIILjava/util/function/BiFunction;)I" } : Jvm.MethodName)) ∈ zT := zw_tb (zq_tables_1_3 _ (List.mem_of_getElem? (i := 47) rfl)) rfl
theorem zw_637 : (Jvm.Cond.static ({ cls := "jdk/internal/util/Preconditions", name := "checkFromToIndex", desc := "(IIILjava/util/function/BiFunction;)I" } : Jvm.MethodName)) ∈ zT := zw_tb (zq_tables_1_3 _ (List.mem_of_getElem? (i := 48) rfl)) rfl
theorem zw_638 : (Jvm.Cond.code ({ cls := "jdk/internal/util/Preconditions", name := "checkFromToIndex", desc := "(IIILjava/util/function/BiFunction;)I" } : Jvm.MethodName) prog_26_method_12_code (4 : Nat) (Option.some Jvm.ClassFile.FieldType.int)) ∈ zT := zw_tb (zq_tables_1_3 _ (List.mem_of_getElem? (i := 49) rfl)) rfl
theorem zw_656 : (Jvm.Cond.methodLink "NumberDress$Reader" (93 : Nat) ({ cls := "java/lang/Math", name := "max", desc := "(II)I" } : Jvm.MethodName)) ∈ zT := zw_tb (zq_tables_1_3 _ (List.mem_of_getElem? (i := 67) rfl)) rfl
theorem zw_657 : (Jvm.Cond.methodLink "NumberDress$Reader" (46 : Nat) ({ cls := "NumberDress$Reader", name := "readSection", desc := "(III)I" } : Jvm.MethodName)) ∈ zT := zw_tb (zq_tables_1_3 _ (List.mem_of_getElem? (i := 68) rfl)) rfl
theorem zw_659 : (Jvm.Cond.instanceMethod ({ cls := "NumberDress$Reader", name := "readSection", desc := "(III)I" } : Jvm.MethodName)) ∈ zT := zw_tb (zq_tables_1_3 _ (List.mem_of_getElem? (i := 70) rfl)) rfl
theorem zw_660 : (Jvm.Cond.code ({ cls := "NumberDress$Reader", name := "readSection", desc := "(III)I" } : Jvm.MethodName) prog_9_method_4_code (9 : Nat) (Option.some Jvm.ClassFile.FieldType.int)) ∈ zT := zw_tb (zq_tables_1_3 _ (List.mem_of_getElem? (i := 71) rfl)) rfl
theorem zw_661 : (Jvm.Cond.methodLink "NumberDress$Reader" (53 : Nat) ({ cls := "NumberDress$Code", name := "open", desc := "()LNumberDress$Section;" } : Jvm.MethodName)) ∈ zT := zw_tb (zq_tables_1_3 _ (List.mem_of_getElem? (i := 72) rfl)) rfl
theorem zw_662 : (Jvm.Cond.instanceMethod ({ cls := "NumberDress$Code", name := "open", desc := "()LNumberDress$Section;" } : Jvm.MethodName)) ∈ zT := zw_tb (zq_tables_1_3 _ (List.mem_of_getElem? (i := 73) rfl)) rfl
theorem zw_663 : (Jvm.Cond.selects "NumberDress$Code" ({ cls := "NumberDress$Code", name := "open", desc := "()LNumberDress$Section;" } : Jvm.MethodName) ({ cls := "NumberDress$Code", name := "open", desc := "()LNumberDress$Section;" } : Jvm.MethodName)) ∈ zT := zw_tb (zq_tables_1_3 _ (List.mem_of_getElem? (i := 74) rfl)) rfl
theorem zw_664 : (Jvm.Cond.code ({ cls := "NumberDress$Code", name := "open", desc := "()LNumberDress$Section;" } : Jvm.MethodName) prog_2_method_3_code (2 : Nat) (Option.some (Jvm.ClassFile.FieldType.object "NumberDress$Section"))) ∈ zT := zw_tb (zq_tables_1_3 _ (List.mem_of_getElem? (i := 75) rfl)) rfl
theorem zw_665 : (Jvm.Cond.methodLink "NumberDress$Code" (32 : Nat) ({ cls := "NumberDress$Section", name := "clear", desc := "(I)V" } : Jvm.MethodName)) ∈ zT := zw_tb (zq_tables_1_3 _ (List.mem_of_getElem? (i := 76) rfl)) rfl
theorem zw_666 : (Jvm.Cond.instanceMethod ({ cls := "NumberDress$Section", name := "clear", desc := "(I)V" } : Jvm.MethodName)) ∈ zT := zw_tb (zq_tables_1_3 _ (List.mem_of_getElem? (i := 77) rfl)) rfl
theorem zw_667 : (Jvm.Cond.selects "NumberDress$Section" ({ cls := "NumberDress$Section", name := "clear", desc := "(I)V" } : Jvm.MethodName) ({ cls := "NumberDress$Section", name := "clear", desc := "(I)V" } : Jvm.MethodName)) ∈ zT := zw_tb (zq_tables_1_3 _ (List.mem_of_getElem? (i := 78) rfl)) rfl
theorem zw_668 : (Jvm.Cond.code ({ cls := "NumberDress$Section", name := "clear", desc := "(I)V" } : Jvm.MethodName) prog_10_method_2_code (2 : Nat) (Option.none : Option Jvm.ClassFile.FieldType)) ∈ zT := zw_tb (zq_tables_1_3 _ (List.mem_of_getElem? (i := 79) rfl)) rfl
theorem zw_670 : (Jvm.Cond.methodLink "NumberDress$Reader" (63 : Nat) ({ cls := "NumberDress$Reader", name := "findKind", desc := "(II)V" } : Jvm.MethodName)) ∈ zT := zw_tb (zq_tables_1_3 _ (List.mem_of_getElem? (i := 81) rfl)) rfl
theorem zw_672 : (Jvm.Cond.instanceMethod ({ cls := "NumberDress$Reader", name := "findKind", desc := "(II)V" } : Jvm.MethodName)) ∈ zT := zw_tb (zq_tables_1_3 _ (List.mem_of_getElem? (i := 83) rfl)) rfl
theorem zw_673 : (Jvm.Cond.code ({ cls := "NumberDress$Reader", name := "findKind", desc := "(II)V" } : Jvm.MethodName) prog_9_method_6_code (6 : Nat) (Option.none : Option Jvm.ClassFile.FieldType)) ∈ zT := zw_tb (zq_tables_1_3 _ (List.mem_of_getElem? (i := 84) rfl)) rfl
theorem zw_674 : (Jvm.Cond.methodLink "NumberDress$Reader" (96 : Nat) ({ cls := "NumberDress$Reader", name := "kindMadeAt", desc := "(I)I" } : Jvm.MethodName)) ∈ zT := zw_tb (zq_tables_1_3 _ (List.mem_of_getElem? (i := 85) rfl)) rfl
theorem zw_676 : (Jvm.Cond.instanceMethod ({ cls := "NumberDress$Reader", name := "kindMadeAt", desc := "(I)I" } : Jvm.MethodName)) ∈ zT := zw_tb (zq_tables_1_3 _ (List.mem_of_getElem? (i := 87) rfl)) rfl
theorem zw_677 : (Jvm.Cond.code ({ cls := "NumberDress$Reader", name := "kindMadeAt", desc := "(I)I" } : Jvm.MethodName) prog_9_method_7_code (4 : Nat) (Option.some Jvm.ClassFile.FieldType.int)) ∈ zT := zw_tb (zq_tables_1_3 _ (List.mem_of_getElem? (i := 88) rfl)) rfl
theorem zw_678 : (Jvm.Cond.methodLink "NumberDress$Reader" (102 : Nat) ({ cls := "NumberDress$Reader", name := "isPlace", desc := "(C)Z" } : Jvm.MethodName)) ∈ zT := zw_tb (zq_tables_1_3 _ (List.mem_of_getElem? (i := 89) rfl)) rfl
theorem zw_679 : (Jvm.Cond.static ({ cls := "NumberDress$Reader", name := "isPlace", desc := "(C)Z" } : Jvm.MethodName)) ∈ zT := zw_tb (zq_tables_1_3 _ (List.mem_of_getElem? (i := 90) rfl)) rfl
theorem zw_680 : (Jvm.Cond.code ({ cls := "NumberDress$Reader", name := "isPlace", desc := "(C)Z" } : Jvm.MethodName) prog_9_method_40_code (1 : Nat) (Option.some Jvm.ClassFile.FieldType.boolean)) ∈ zT := zw_tb (zq_tables_1_3 _ (List.mem_of_getElem? (i := 91) rfl)) rfl
theorem zw_681 : (Jvm.Cond.methodLink "NumberDress$Reader" (106 : Nat) ({ cls := "NumberDress$Reader", name := "isDateLetter", desc := "(C)Z" } : Jvm.MethodName)) ∈ zT := zw_tb (zq_tables_1_3 _ (List.mem_of_getElem? (i := 92) rfl)) rfl
theorem zw_682 : (Jvm.Cond.static ({ cls := "NumberDress$Reader", name := "isDateLetter", desc := "(C)Z" } : Jvm.MethodName)) ∈ zT := zw_tb (zq_tables_1_3 _ (List.mem_of_getElem? (i := 93) rfl)) rfl
theorem zw_683 : (Jvm.Cond.code ({ cls := "NumberDress$Reader", name := "isDateLetter", desc := "(C)Z" } : Jvm.MethodName) prog_9_method_42_code (1 : Nat) (Option.some Jvm.ClassFile.FieldType.boolean)) ∈ zT := zw_tb (zq_tables_1_3 _ (List.mem_of_getElem? (i := 94) rfl)) rfl
theorem zw_684 : (Jvm.Cond.methodLink "NumberDress$Reader" (109 : Nat) ({ cls := "NumberDress$Reader", name := "bracketRow", desc := "(I)I" } : Jvm.MethodName)) ∈ zT := zw_tb (zq_tables_1_3 _ (List.mem_of_getElem? (i := 95) rfl)) rfl
theorem zw_686 : (Jvm.Cond.instanceMethod ({ cls := "NumberDress$Reader", name := "bracketRow", desc := "(I)I" } : Jvm.MethodName)) ∈ zT := zw_tb (zq_tables_1_3 _ (List.mem_of_getElem? (i := 97) rfl)) rfl
theorem zw_687 : (Jvm.Cond.code ({ cls := "NumberDress$Reader", name := "bracketRow", desc := "(I)I" } : Jvm.MethodName) prog_9_method_38_code (4 : Nat) (Option.some Jvm.ClassFile.FieldType.int)) ∈ zT := zw_tb (zq_tables_1_3 _ (List.mem_of_getElem? (i := 98) rfl)) rfl
theorem zw_688 : (Jvm.Cond.methodLink "NumberDress$Reader" (237 : Nat) ({ cls := "NumberDress$Reader", name := "rowLength", desc := "(I)I" } : Jvm.MethodName)) ∈ zT := zw_tb (zq_tables_1_3 _ (List.mem_of_getElem? (i := 99) rfl)) rfl
theorem zw_690 : (Jvm.Cond.instanceMethod ({ cls := "NumberDress$Reader", name := "rowLength", desc := "(I)I" } : Jvm.MethodName)) ∈ zT := zw_tb (zq_tables_1_3 _ (List.mem_of_getElem? (i := 101) rfl)) rfl
theorem zw_691 : (Jvm.Cond.code ({ cls := "NumberDress$Reader", name := "rowLength", desc := "(I)I" } : Jvm.MethodName) prog_9_method_37_code (3 : Nat) (Option.some Jvm.ClassFile.FieldType.int)) ∈ zT := zw_tb (zq_tables_1_3 _ (List.mem_of_getElem? (i := 102) rfl)) rfl
theorem zw_692 : (Jvm.Cond.methodLink "NumberDress$Reader" (112 : Nat) ({ cls := "NumberDress$Reader", name := "halfDayLength", desc := "(I)I" } : Jvm.MethodName)) ∈ zT := zw_tb (zq_tables_1_3 _ (List.mem_of_getElem? (i := 103) rfl)) rfl
theorem zw_694 : (Jvm.Cond.instanceMethod ({ cls := "NumberDress$Reader", name := "halfDayLength", desc := "(I)I" } : Jvm.MethodName)) ∈ zT := zw_tb (zq_tables_1_3 _ (List.mem_of_getElem? (i := 105) rfl)) rfl
theorem zw_695 : (Jvm.Cond.code ({ cls := "NumberDress$Reader", name := "halfDayLength", desc := "(I)I" } : Jvm.MethodName) prog_9_method_39_code (2 : Nat) (Option.some Jvm.ClassFile.FieldType.int)) ∈ zT := zw_tb (zq_tables_1_3 _ (List.mem_of_getElem? (i := 106) rfl)) rfl
theorem zw_698 : (Jvm.Cond.methodLink "NumberDress$Reader" (67 : Nat) ({ cls := "NumberDress$Section", name := "isBarredFromFourth", desc := "()Z" } : Jvm.MethodName)) ∈ zT := zw_tb (zq_tables_1_3 _ (List.mem_of_getElem? (i := 109) rfl)) rfl
theorem zw_699 : (Jvm.Cond.instanceMethod ({ cls := "NumberDress$Section", name := "isBarredFromFourth", desc := "()Z" } : Jvm.MethodName)) ∈ zT := zw_tb (zq_tables_1_3 _ (List.mem_of_getElem? (i := 110) rfl)) rfl
theorem zw_700 : (Jvm.Cond.selects "NumberDress$Section" ({ cls := "NumberDress$Section", name := "isBarredFromFourth", desc := "()Z" } : Jvm.MethodName) ({ cls := "NumberDress$Section", name := "isBarredFromFourth", desc := "()Z" } : Jvm.MethodName)) ∈ zT := zw_tb (zq_tables_1_3 _ (List.mem_of_getElem? (i := 111) rfl)) rfl
theorem zw_701 : (Jvm.Cond.code ({ cls := "NumberDress$Section", name := "isBarredFromFourth", desc := "()Z" } : Jvm.MethodName) prog_10_method_3_code (1 : Nat) (Option.some Jvm.ClassFile.FieldType.boolean)) ∈ zT := zw_tb (zq_tables_1_3 _ (List.mem_of_getElem? (i := 112) rfl)) rfl
theorem zw_702 : (Jvm.Cond.methodLink "NumberDress$Reader" (74 : Nat) ({ cls := "NumberDress$Reader", name := "readItem", desc := "(I)I" } : Jvm.MethodName)) ∈ zT := zw_tb (zq_tables_1_3 _ (List.mem_of_getElem? (i := 113) rfl)) rfl
theorem zw_704 : (Jvm.Cond.instanceMethod ({ cls := "NumberDress$Reader", name := "readItem", desc := "(I)I" } : Jvm.MethodName)) ∈ zT := zw_tb (zq_tables_1_3 _ (List.mem_of_getElem? (i := 115) rfl)) rfl
theorem zw_705 : (Jvm.Cond.code ({ cls := "NumberDress$Reader", name := "readItem", desc := "(I)I" } : Jvm.MethodName) prog_9_method_8_code (3 : Nat) (Option.some Jvm.ClassFile.FieldType.int)) ∈ zT := zw_tb (zq_tables_1_3 _ (List.mem_of_getElem? (i := 116) rfl)) rfl
theorem zw_706 : (Jvm.Cond.methodLink "NumberDress$Reader" (115 : Nat) ({ cls := "NumberDress$Reader", name := "addCommon", desc := "(II)V" } : Jvm.MethodName)) ∈ zT := zw_tb (zq_tables_1_3 _ (List.mem_of_getElem? (i := 117) rfl)) rfl
theorem zw_708 : (Jvm.Cond.instanceMethod ({ cls := "NumberDress$Reader", name := "addCommon", desc := "(II)V" } : Jvm.MethodName)) ∈ zT := zw_tb (zq_tables_1_3 _ (List.mem_of_getElem? (i := 119) rfl)) rfl
theorem zw_709 : (Jvm.Cond.code ({ cls := "NumberDress$Reader", name := "addCommon", desc := "(II)V" } : Jvm.MethodName) prog_9_method_10_code (4 : Nat) (Option.none : Option Jvm.ClassFile.FieldType)) ∈ zT := zw_tb (zq_tables_1_3 _ (List.mem_of_getElem? (i := 120) rfl)) rfl
theorem zw_710 : (Jvm.Cond.methodLink "NumberDress$Reader" (139 : Nat) ({ cls := "NumberDress$Code", name := "add", desc := "(II)V" } : Jvm.MethodName)) ∈ zT := zw_tb (zq_tables_1_3 _ (List.mem_of_getElem? (i := 121) rfl)) rfl
theorem zw_711 : (Jvm.Cond.instanceMethod ({ cls := "NumberDress$Code", name := "add", desc := "(II)V" } : Jvm.MethodName)) ∈ zT := zw_tb (zq_tables_1_3 _ (List.mem_of_getElem? (i := 122) rfl)) rfl
theorem zw_712 : (Jvm.Cond.selects "NumberDress$Code" ({ cls := "NumberDress$Code", name := "add", desc := "(II)V" } : Jvm.MethodName) ({ cls := "NumberDress$Code", name := "add", desc := "(II)V" } : Jvm.MethodName)) ∈ zT := zw_tb (zq_tables_1_3 _ (List.mem_of_getElem? (i := 123) rfl)) rfl
theorem zw_713 : (Jvm.Cond.code ({ cls := "NumberDress$Code", name := "add", desc := "(II)V" } : Jvm.MethodName) prog_2_method_5_code (3 : Nat) (Option.none : Option Jvm.ClassFile.FieldType)) ∈ zT := zw_tb (zq_tables_1_3 _ (List.mem_of_getElem? (i := 124) rfl)) rfl
theorem zw_714 : (Jvm.Cond.methodLink "NumberDress$Reader" (118 : Nat) ({ cls := "NumberDress$Reader", name := "readNumberItem", desc := "(I)I" } : Jvm.MethodName)) ∈ zT := zw_tb (zq_tables_1_3 _ (List.mem_of_getElem? (i := 125) rfl)) rfl
theorem zw_716 : (Jvm.Cond.instanceMethod ({ cls := "NumberDress$Reader", name := "readNumberItem", desc := "(I)I" } : Jvm.MethodName)) ∈ zT := zw_tb (zq_tables_1_3 _ (List.mem_of_getElem? (i := 127) rfl)) rfl
theorem zw_717 : (Jvm.Cond.code ({ cls := "NumberDress$Reader", name := "readNumberItem", desc := "(I)I" } : Jvm.MethodName) prog_9_method_15_code (3 : Nat) (Option.some Jvm.ClassFile.FieldType.int)) ∈ zT := zw_tb (zq_tables_1_3 _ (List.mem_of_getElem? (i := 128) rfl)) rfl
theorem zw_718 : (Jvm.Cond.methodLink "NumberDress$Reader" (151 : Nat) ({ cls := "NumberDress$Reader", name := "readPlace", desc := "(C)I" } : Jvm.MethodName)) ∈ zT := zw_tb (zq_tables_1_3 _ (List.mem_of_getElem? (i := 129) rfl)) rfl
theorem zw_720 : (Jvm.Cond.instanceMethod ({ cls := "NumberDress$Reader", name := "readPlace", desc := "(C)I" } : Jvm.MethodName)) ∈ zT := zw_tb (zq_tables_1_3 _ (List.mem_of_getElem? (i := 131) rfl)) rfl
theorem zw_721 : (Jvm.Cond.code ({ cls := "NumberDress$Reader", name := "readPlace", desc := "(C)I" } : Jvm.MethodName) prog_9_method_16_code (2 : Nat) (Option.some Jvm.ClassFile.FieldType.int)) ∈ zT := zw_tb (zq_tables_1_3 _ (List.mem_of_getElem? (i := 132) rfl)) rfl
theorem zw_722 : (Jvm.Cond.methodLink "NumberDress$Reader" (124 : Nat) ({ cls := "NumberDress$Reader", name := "addOne", desc := "(II)I" } : Jvm.MethodName)) ∈ zT := zw_tb (zq_tables_1_3 _ (List.mem_of_getElem? (i := 133) rfl)) rfl
theorem zw_724 : (Jvm.Cond.instanceMethod ({ cls := "NumberDress$Reader", name := "addOne", desc := "(II)I" } : Jvm.MethodName)) ∈ zT := zw_tb (zq_tables_1_3 _ (List.mem_of_getElem? (i := 135) rfl)) rfl
theorem zw_725 : (Jvm.Cond.code ({ cls := "NumberDress$Reader", name := "addOne", desc := "(II)I" } : Jvm.MethodName) prog_9_method_14_code (3 : Nat) (Option.some Jvm.ClassFile.FieldType.int)) ∈ zT := zw_tb (zq_tables_1_3 _ (List.mem_of_getElem? (i := 136) rfl)) rfl
theorem zw_726 : (Jvm.Cond.methodLink "NumberDress$Reader" (155 : Nat) ({ cls := "NumberDress$Reader", name := "readPoint", desc := "()I" } : Jvm.MethodName)) ∈ zT := zw_tb (zq_tables_1_3 _ (List.mem_of_getElem? (i := 137) rfl)) rfl
theorem zw_728 : (Jvm.Cond.instanceMethod ({ cls := "NumberDress$Reader", name := "readPoint", desc := "()I" } : Jvm.MethodName)) ∈ zT := zw_tb (zq_tables_1_3 _ (List.mem_of_getElem? (i := 139) rfl)) rfl
theorem zw_729 : (Jvm.Cond.code ({ cls := "NumberDress$Reader", name := "readPoint", desc := "()I" } : Jvm.MethodName) prog_9_method_17_code (1 : Nat) (Option.some Jvm.ClassFile.FieldType.int)) ∈ zT := zw_tb (zq_tables_1_3 _ (List.mem_of_getElem? (i := 140) rfl)) rfl
theorem zw_730 : (Jvm.Cond.methodLink "NumberDress$Reader" (158 : Nat) ({ cls := "NumberDress$Reader", name := "readComma", desc := "(I)I" } : Jvm.MethodName)) ∈ zT := zw_tb (zq_tables_1_3 _ (List.mem_of_getElem? (i := 141) rfl)) rfl
theorem zw_732 : (Jvm.Cond.instanceMethod ({ cls := "NumberDress$Reader", name := "readComma", desc := "(I)I" } : Jvm.MethodName)) ∈ zT := zw_tb (zq_tables_1_3 _ (List.mem_of_getElem? (i := 143) rfl)) rfl
theorem zw_733 : (Jvm.Cond.code ({ cls := "NumberDress$Reader", name := "readComma", desc := "(I)I" } : Jvm.MethodName) prog_9_method_18_code (3 : Nat) (Option.some Jvm.ClassFile.FieldType.int)) ∈ zT := zw_tb (zq_tables_1_3 _ (List.mem_of_getElem? (i := 144) rfl)) rfl
theorem zw_734 : (Jvm.Cond.methodLink "NumberDress$Reader" (183 : Nat) ({ cls := "NumberDress$Reader", name := "kindBefore", desc := "()I" } : Jvm.MethodName)) ∈ zT := zw_tb (zq_tables_1_3 _ (List.mem_of_getElem? (i := 145) rfl)) rfl
theorem zw_736 : (Jvm.Cond.instanceMethod ({ cls := "NumberDress$Reader", name := "kindBefore", desc := "()I" } : Jvm.MethodName)) ∈ zT := zw_tb (zq_tables_1_3 _ (List.mem_of_getElem? (i := 147) rfl)) rfl
theorem zw_737 : (Jvm.Cond.code ({ cls := "NumberDress$Reader", name := "kindBefore", desc := "()I" } : Jvm.MethodName) prog_9_method_33_code (2 : Nat) (Option.some Jvm.ClassFile.FieldType.int)) ∈ zT := zw_tb (zq_tables_1_3 _ (List.mem_of_getElem? (i := 148) rfl)) rfl
theorem zw_738 : (Jvm.Cond.methodLink "NumberDress$Reader" (213 : Nat) ({ cls := "NumberDress$Code", name := "kind", desc := "(I)I" } : Jvm.MethodName)) ∈ zT := zw_tb (zq_tables_1_3 _ (List.mem_of_getElem? (i := 149) rfl)) rfl
theorem zw_739 : (Jvm.Cond.instanceMethod ({ cls := "NumberDress$Code", name := "kind", desc := "(I)I" } : Jvm.MethodName)) ∈ zT := zw_tb (zq_tables_1_3 _ (List.mem_of_getElem? (i := 150) rfl)) rfl
theorem zw_740 : (Jvm.Cond.selects "NumberDress$Code" ({ cls := "NumberDress$Code", name := "kind", desc := "(I)I" } : Jvm.MethodName) ({ cls := "NumberDress$Code", name := "kind", desc := "(I)I" } : Jvm.MethodName)) ∈ zT := zw_tb (zq_tables_1_3 _ (List.mem_of_getElem? (i := 151) rfl)) rfl
theorem zw_741 : (Jvm.Cond.code ({ cls := "NumberDress$Code", name := "kind", desc := "(I)I" } : Jvm.MethodName) prog_2_method_6_code (2 : Nat) (Option.some Jvm.ClassFile.FieldType.int)) ∈ zT := zw_tb (zq_tables_1_3 _ (List.mem_of_getElem? (i := 152) rfl)) rfl
theorem zw_742 : (Jvm.Cond.methodLink "NumberDress$Reader" (164 : Nat) ({ cls := "NumberDress$Reader", name := "readPower", desc := "(I)I" } : Jvm.MethodName)) ∈ zT := zw_tb (zq_tables_1_3 _ (List.mem_of_getElem? (i := 153) rfl)) rfl
theorem zw_744 : (Jvm.Cond.instanceMethod ({ cls := "NumberDress$Reader", name := "readPower", desc := "(I)I" } : Jvm.MethodName)) ∈ zT := zw_tb (zq_tables_1_3 _ (List.mem_of_getElem? (i := 155) rfl)) rfl
theorem zw_745 : (Jvm.Cond.code ({ cls := "NumberDress$Reader", name := "readPower", desc := "(I)I" } : Jvm.MethodName) prog_9_method_19_code (8 : Nat) (Option.some Jvm.ClassFile.FieldType.int)) ∈ zT := zw_tb (zq_tables_1_3 _ (List.mem_of_getElem? (i := 156) rfl)) rfl
theorem zw_746 : (Jvm.Cond.methodLink "NumberDress$Reader" (189 : Nat) ({ cls := "NumberDress$Reader", name := "placesFrom", desc := "(I)I" } : Jvm.MethodName)) ∈ zT := zw_tb (zq_tables_1_3 _ (List.mem_of_getElem? (i := 157) rfl)) rfl
theorem zw_748 : (Jvm.Cond.instanceMethod ({ cls := "NumberDress$Reader", name := "placesFrom", desc := "(I)I" } : Jvm.MethodName)) ∈ zT := zw_tb (zq_tables_1_3 _ (List.mem_of_getElem? (i := 159) rfl)) rfl
theorem zw_749 : (Jvm.Cond.code ({ cls := "NumberDress$Reader", name := "placesFrom", desc := "(I)I" } : Jvm.MethodName) prog_9_method_22_code (3 : Nat) (Option.some Jvm.ClassFile.FieldType.int)) ∈ zT := zw_tb (zq_tables_1_3 _ (List.mem_of_getElem? (i := 160) rfl)) rfl
theorem zw_750 : (Jvm.Cond.methodLink "NumberDress$Reader" (192 : Nat) ({ cls := "NumberDress$Section", name := "hasCommaOrPercent", desc := "()Z" } : Jvm.MethodName)) ∈ zT := zw_tb (zq_tables_1_3 _ (List.mem_of_getElem? (i := 161) rfl)) rfl
theorem zw_751 : (Jvm.Cond.instanceMethod ({ cls := "NumberDress$Section", name := "hasCommaOrPercent", desc := "()Z" } : Jvm.MethodName)) ∈ zT := zw_tb (zq_tables_1_3 _ (List.mem_of_getElem? (i := 162) rfl)) rfl
theorem zw_752 : (Jvm.Cond.selects "NumberDress$Section" ({ cls := "NumberDress$Section", name := "hasCommaOrPercent", desc := "()Z" } : Jvm.MethodName) ({ cls := "NumberDress$Section", name := "hasCommaOrPercent", desc := "()Z" } : Jvm.MethodName)) ∈ zT := zw_tb (zq_tables_1_3 _ (List.mem_of_getElem? (i := 163) rfl)) rfl
theorem zw_753 : (Jvm.Cond.code ({ cls := "NumberDress$Section", name := "hasCommaOrPercent", desc := "()Z" } : Jvm.MethodName) prog_10_method_4_code (1 : Nat) (Option.some Jvm.ClassFile.FieldType.boolean)) ∈ zT := zw_tb (zq_tables_1_3 _ (List.mem_of_getElem? (i := 164) rfl)) rfl
theorem zw_754 : (Jvm.Cond.methodLink "NumberDress$Reader" (167 : Nat) ({ cls := "NumberDress$Reader", name := "readFraction", desc := "(I)I" } : Jvm.MethodName)) ∈ zT := zw_tb (zq_tables_1_3 _ (List.mem_of_getElem? (i := 165) rfl)) rfl
theorem zw_756 : (Jvm.Cond.instanceMethod ({ cls := "NumberDress$Reader", name := "readFraction", desc := "(I)I" } : Jvm.MethodName)) ∈ zT := zw_tb (zq_tables_1_3 _ (List.mem_of_getElem? (i := 167) rfl)) rfl
theorem zw_757 : (Jvm.Cond.code ({ cls := "NumberDress$Reader", name := "readFraction", desc := "(I)I" } : Jvm.MethodName) prog_9_method_20_code (6 : Nat) (Option.some Jvm.ClassFile.FieldType.int)) ∈ zT := zw_tb (zq_tables_1_3 _ (List.mem_of_getElem? (i := 168) rfl)) rfl
theorem zw_758 : (Jvm.Cond.methodLink "NumberDress$Reader" (198 : Nat) ({ cls := "NumberDress$Reader", name := "digitsFrom", desc := "(I)I" } : Jvm.MethodName)) ∈ zT := zw_tb (zq_tables_1_3 _ (List.mem_of_getElem? (i := 169) rfl)) rfl
theorem zw_760 : (Jvm.Cond.instanceMethod ({ cls := "NumberDress$Reader", name := "digitsFrom", desc := "(I)I" } : Jvm.MethodName)) ∈ zT := zw_tb (zq_tables_1_3 _ (List.mem_of_getElem? (i := 171) rfl)) rfl
theorem zw_761 : (Jvm.Cond.code ({ cls := "NumberDress$Reader", name := "digitsFrom", desc := "(I)I" } : Jvm.MethodName) prog_9_method_23_code (3 : Nat) (Option.some Jvm.ClassFile.FieldType.int)) ∈ zT := zw_tb (zq_tables_1_3 _ (List.mem_of_getElem? (i := 172) rfl)) rfl
theorem zw_762 : (Jvm.Cond.methodLink "NumberDress$Reader" (221 : Nat) ({ cls := "NumberDress$Reader", name := "isDigit", desc := "(C)Z" } : Jvm.MethodName)) ∈ zT := zw_tb (zq_tables_1_3 _ (List.mem_of_getElem? (i := 173) rfl)) rfl
theorem zw_763 : (Jvm.Cond.static ({ cls := "NumberDress$Reader", name := "isDigit", desc := "(C)Z" } : Jvm.MethodName)) ∈ zT := zw_tb (zq_tables_1_3 _ (List.mem_of_getElem? (i := 174) rfl)) rfl
theorem zw_764 : (Jvm.Cond.code ({ cls := "NumberDress$Reader", name := "isDigit", desc := "(C)Z" } : Jvm.MethodName) prog_9_method_41_code (1 : Nat) (Option.some Jvm.ClassFile.FieldType.boolean)) ∈ zT := zw_tb (zq_tables_1_3 _ (List.mem_of_getElem? (i := 175) rfl)) rfl
theorem zw_765 : (Jvm.Cond.methodLink "NumberDress$Reader" (201 : Nat) ({ cls := "NumberDress$Reader", name := "makeNumerator", desc := "()V" } : Jvm.MethodName)) ∈ zT := zw_tb (zq_tables_1_3 _ (List.mem_of_getElem? (i := 176) rfl)) rfl
theorem zw_767 : (Jvm.Cond.instanceMethod ({ cls := "NumberDress$Reader", name := "makeNumerator", desc := "()V" } : Jvm.MethodName)) ∈ zT := zw_tb (zq_tables_1_3 _ (List.mem_of_getElem? (i := 178) rfl)) rfl
theorem zw_768 : (Jvm.Cond.code ({ cls := "NumberDress$Reader", name := "makeNumerator", desc := "()V" } : Jvm.MethodName) prog_9_method_21_code (2 : Nat) (Option.none : Option Jvm.ClassFile.FieldType)) ∈ zT := zw_tb (zq_tables_1_3 _ (List.mem_of_getElem? (i := 179) rfl)) rfl
theorem zw_769 : (Jvm.Cond.methodLink "NumberDress$Reader" (215 : Nat) ({ cls := "NumberDress$Code", name := "change", desc := "(II)V" } : Jvm.MethodName)) ∈ zT := zw_tb (zq_tables_1_3 _ (List.mem_of_getElem? (i := 180) rfl)) rfl
theorem zw_770 : (Jvm.Cond.instanceMethod ({ cls := "NumberDress$Code", name := "change", desc := "(II)V" } : Jvm.MethodName)) ∈ zT := zw_tb (zq_tables_1_3 _ (List.mem_of_getElem? (i := 181) rfl)) rfl
theorem zw_771 : (Jvm.Cond.selects "NumberDress$Code" ({ cls := "NumberDress$Code", name := "change", desc := "(II)V" } : Jvm.MethodName) ({ cls := "NumberDress$Code", name := "change", desc := "(II)V" } : Jvm.MethodName)) ∈ zT := zw_tb (zq_tables_1_3 _ (List.mem_of_getElem? (i := 182) rfl)) rfl
theorem zw_772 : (Jvm.Cond.code ({ cls := "NumberDress$Code", name := "change", desc := "(II)V" } : Jvm.MethodName) prog_2_method_8_code (3 : Nat) (Option.none : Option Jvm.ClassFile.FieldType)) ∈ zT := zw_tb (zq_tables_1_3 _ (List.mem_of_getElem? (i := 183) rfl)) rfl
theorem zw_773 : (Jvm.Cond.methodLink "NumberDress$Reader" (121 : Nat) ({ cls := "NumberDress$Reader", name := "readDateItem", desc := "(I)I" } : Jvm.MethodName)) ∈ zT := zw_tb (zq_tables_1_3 _ (List.mem_of_getElem? (i := 184) rfl)) rfl
theorem zw_775 : (Jvm.Cond.instanceMethod ({ cls := "NumberDress$Reader", name := "readDateItem", desc := "(I)I" } : Jvm.MethodName)) ∈ zT := zw_tb (zq_tables_1_3 _ (List.mem_of_getElem? (i := 186) rfl)) rfl
theorem zw_776 : (Jvm.Cond.code ({ cls := "NumberDress$Reader", name := "readDateItem", desc := "(I)I" } : Jvm.MethodName) prog_9_method_24_code (3 : Nat) (Option.some Jvm.ClassFile.FieldType.int)) ∈ zT := zw_tb (zq_tables_1_3 _ (List.mem_of_getElem? (i := 187) rfl)) rfl
theorem zw_777 : (Jvm.Cond.methodLink "NumberDress$Reader" (224 : Nat) ({ cls := "NumberDress$Reader", name := "readRow", desc := "(IC)I" } : Jvm.MethodName)) ∈ zT := zw_tb (zq_tables_1_3 _ (List.mem_of_getElem? (i := 188) rfl)) rfl
theorem zw_779 : (Jvm.Cond.instanceMethod ({ cls := "NumberDress$Reader", name := "readRow", desc := "(IC)I" } : Jvm.MethodName)) ∈ zT := zw_tb (zq_tables_1_3 _ (List.mem_of_getElem? (i := 190) rfl)) rfl
theorem zw_780 : (Jvm.Cond.code ({ cls := "NumberDress$Reader", name := "readRow", desc := "(IC)I" } : Jvm.MethodName) prog_9_method_25_code (4 : Nat) (Option.some Jvm.ClassFile.FieldType.int)) ∈ zT := zw_tb (zq_tables_1_3 _ (List.mem_of_getElem? (i := 191) rfl)) rfl
theorem zw_781 : (Jvm.Cond.methodLink "NumberDress$Reader" (240 : Nat) ({ cls := "NumberDress$Reader", name := "addRow", desc := "(II)I" } : Jvm.MethodName)) ∈ zT := zw_tb (zq_tables_1_3 _ (List.mem_of_getElem? (i := 192) rfl)) rfl
theorem zw_783 : (Jvm.Cond.instanceMethod ({ cls := "NumberDress$Reader", name := "addRow", desc := "(II)I" } : Jvm.MethodName)) ∈ zT := zw_tb (zq_tables_1_3 _ (List.mem_of_getElem? (i := 194) rfl)) rfl
theorem zw_784 : (Jvm.Cond.code ({ cls := "NumberDress$Reader", name := "addRow", desc := "(II)I" } : Jvm.MethodName) prog_9_method_26_code (3 : Nat) (Option.some Jvm.ClassFile.FieldType.int)) ∈ zT := zw_tb (zq_tables_1_3 _ (List.mem_of_getElem? (i := 195) rfl)) rfl
theorem zw_785 : (Jvm.Cond.methodLink "NumberDress$Reader" (228 : Nat) ({ cls := "NumberDress$Reader", name := "readInAll", desc := "(II)I" } : Jvm.MethodName)) ∈ zT := zw_tb (zq_tables_1_3 _ (List.mem_of_getElem? (i := 196) rfl)) rfl
theorem zw_787 : (Jvm.Cond.instanceMethod ({ cls := "NumberDress$Reader", name := "readInAll", desc := "(II)I" } : Jvm.MethodName)) ∈ zT := zw_tb (zq_tables_1_3 _ (List.mem_of_getElem? (i := 198) rfl)) rfl
theorem zw_788 : (Jvm.Cond.code ({ cls := "NumberDress$Reader", name := "readInAll", desc := "(II)I" } : Jvm.MethodName) prog_9_method_27_code (4 : Nat) (Option.some Jvm.ClassFile.FieldType.int)) ∈ zT := zw_tb (zq_tables_1_3 _ (List.mem_of_getElem? (i := 199) rfl)) rfl
theorem zw_789 : (Jvm.Cond.methodLink "NumberDress$Reader" (231 : Nat) ({ cls := "NumberDress$Reader", name := "readHalfDay", desc := "(I)I" } : Jvm.MethodName)) ∈ zT := zw_tb (zq_tables_1_3 _ (List.mem_of_getElem? (i := 200) rfl)) rfl
theorem zw_791 : (Jvm.Cond.instanceMethod ({ cls := "NumberDress$Reader", name := "readHalfDay", desc := "(I)I" } : Jvm.MethodName)) ∈ zT := zw_tb (zq_tables_1_3 _ (List.mem_of_getElem? (i := 202) rfl)) rfl
theorem zw_792 : (Jvm.Cond.code ({ cls := "NumberDress$Reader", name := "readHalfDay", desc := "(I)I" } : Jvm.MethodName) prog_9_method_28_code (2 : Nat) (Option.some Jvm.ClassFile.FieldType.int)) ∈ zT := zw_tb (zq_tables_1_3 _ (List.mem_of_getElem? (i := 203) rfl)) rfl
theorem zw_793 : (Jvm.Cond.methodLink "NumberDress$Reader" (234 : Nat) ({ cls := "NumberDress$Reader", name := "readParts", desc := "(I)I" } : Jvm.MethodName)) ∈ zT := zw_tb (zq_tables_1_3 _ (List.mem_of_getElem? (i := 204) rfl)) rfl
theorem zw_795 : (Jvm.Cond.instanceMethod ({ cls := "NumberDress$Reader", name := "readParts", desc := "(I)I" } : Jvm.MethodName)) ∈ zT := zw_tb (zq_tables_1_3 _ (List.mem_of_getElem? (i := 206) rfl)) rfl
theorem zw_796 : (Jvm.Cond.code ({ cls := "NumberDress$Reader", name := "readParts", desc := "(I)I" } : Jvm.MethodName) prog_9_method_29_code (4 : Nat) (Option.some Jvm.ClassFile.FieldType.int)) ∈ zT := zw_tb (zq_tables_1_3 _ (List.mem_of_getElem? (i := 207) rfl)) rfl
theorem zw_797 : (Jvm.Cond.methodLink "NumberDress$Reader" (127 : Nat) ({ cls := "NumberDress$Reader", name := "readSign", desc := "(I)I" } : Jvm.MethodName)) ∈ zT := zw_tb (zq_tables_1_3 _ (List.mem_of_getElem? (i := 208) rfl)) rfl
theorem zw_799 : (Jvm.Cond.instanceMethod ({ cls := "NumberDress$Reader", name := "readSign", desc := "(I)I" } : Jvm.MethodName)) ∈ zT := zw_tb (zq_tables_1_3 _ (List.mem_of_getElem? (i := 210) rfl)) rfl
theorem zw_800 : (Jvm.Cond.code ({ cls := "NumberDress$Reader", name := "readSign", desc := "(I)I" } : Jvm.MethodName) prog_9_method_13_code (4 : Nat) (Option.some Jvm.ClassFile.FieldType.int)) ∈ zT := zw_tb (zq_tables_1_3 _ (List.mem_of_getElem? (i := 211) rfl)) rfl
theorem zw_801 : (Jvm.Cond.methodLink "NumberDress$Reader" (83 : Nat) ({ cls := "NumberDress$Reader", name := "findMinutes", desc := "()V" } : Jvm.MethodName)) ∈ zT := zw_tb (zq_tables_1_3 _ (List.mem_of_getElem? (i := 212) rfl)) rfl
theorem zw_803 : (Jvm.Cond.instanceMethod ({ cls := "NumberDress$Reader", name := "findMinutes", desc := "()V" } : Jvm.MethodName)) ∈ zT := zw_tb (zq_tables_1_3 _ (List.mem_of_getElem? (i := 214) rfl)) rfl
theorem zw_804 : (Jvm.Cond.code ({ cls := "NumberDress$Reader", name := "findMinutes", desc := "()V" } : Jvm.MethodName) prog_9_method_30_code (3 : Nat) (Option.none : Option Jvm.ClassFile.FieldType)) ∈ zT := zw_tb (zq_tables_1_3 _ (List.mem_of_getElem? (i := 215) rfl)) rfl
theorem zw_805 : (Jvm.Cond.methodLink "NumberDress$Reader" (249 : Nat) ({ cls := "NumberDress$Code", name := "mark", desc := "(I)I" } : Jvm.MethodName)) ∈ zT := zw_tb (zq_tables_1_3 _ (List.mem_of_getElem? (i := 216) rfl)) rfl
theorem zw_806 : (Jvm.Cond.instanceMethod ({ cls := "NumberDress$Code", name := "mark", desc := "(I)I" } : Jvm.MethodName)) ∈ zT := zw_tb (zq_tables_1_3 _ (List.mem_of_getElem? (i := 217) rfl)) rfl
theorem zw_807 : (Jvm.Cond.selects "NumberDress$Code" ({ cls := "NumberDress$Code", name := "mark", desc := "(I)I" } : Jvm.MethodName) ({ cls := "NumberDress$Code", name := "mark", desc := "(I)I" } : Jvm.MethodName)) ∈ zT := zw_tb (zq_tables_1_3 _ (List.mem_of_getElem? (i := 218) rfl)) rfl
theorem zw_808 : (Jvm.Cond.code ({ cls := "NumberDress$Code", name := "mark", desc := "(I)I" } : Jvm.MethodName) prog_2_method_7_code (2 : Nat) (Option.some Jvm.ClassFile.FieldType.int)) ∈ zT := zw_tb (zq_tables_1_3 _ (List.mem_of_getElem? (i := 219) rfl)) rfl
theorem zw_809 : (Jvm.Cond.methodLink "NumberDress$Reader" (252 : Nat) ({ cls := "NumberDress$Reader", name := "isBehindHours", desc := "(I)Z" } : Jvm.MethodName)) ∈ zT := zw_tb (zq_tables_1_3 _ (List.mem_of_getElem? (i := 220) rfl)) rfl
theorem zw_811 : (Jvm.Cond.instanceMethod ({ cls := "NumberDress$Reader", name := "isBehindHours", desc := "(I)Z" } : Jvm.MethodName)) ∈ zT := zw_tb (zq_tables_1_3 _ (List.mem_of_getElem? (i := 222) rfl)) rfl
theorem zw_812 : (Jvm.Cond.code ({ cls := "NumberDress$Reader", name := "isBehindHours", desc := "(I)Z" } : Jvm.MethodName) prog_9_method_31_code (4 : Nat) (Option.some Jvm.ClassFile.FieldType.boolean)) ∈ zT := zw_tb (zq_tables_1_3 _ (List.mem_of_getElem? (i := 223) rfl)) rfl
theorem zw_813 : (Jvm.Cond.methodLink "NumberDress$Reader" (256 : Nat) ({ cls := "NumberDress$Reader", name := "isBeforeSeconds", desc := "(I)Z" } : Jvm.MethodName)) ∈ zT := zw_tb (zq_tables_1_3 _ (List.mem_of_getElem? (i := 224) rfl)) rfl
theorem zw_815 : (Jvm.Cond.instanceMethod ({ cls := "NumberDress$Reader", name := "isBeforeSeconds", desc := "(I)Z" } : Jvm.MethodName)) ∈ zT := zw_tb (zq_tables_1_3 _ (List.mem_of_getElem? (i := 226) rfl)) rfl
theorem zw_816 : (Jvm.Cond.code ({ cls := "NumberDress$Reader", name := "isBeforeSeconds", desc := "(I)Z" } : Jvm.MethodName) prog_9_method_32_code (4 : Nat) (Option.some Jvm.ClassFile.FieldType.boolean)) ∈ zT := zw_tb (zq_tables_1_3 _ (List.mem_of_getElem? (i := 227) rfl)) rfl
theorem zw_817 : (Jvm.Cond.methodLink "NumberDress" (68 : Nat) ({ cls := "NumberDress$Reader", name := "give", desc := "(LNumberDress$Code;)LNumberDress$Code;" } : Jvm.MethodName)) ∈ zT := zw_tb (zq_tables_1_3 _ (List.mem_of_getElem? (i := 228) rfl)) rfl
theorem zw_818 : (Jvm.Cond.instanceMethod ({ cls := "NumberDress$Reader", name := "give", desc := "(LNumberDress$Code;)LNumberDress$Code;" } : Jvm.MethodName)) ∈ zT := zw_tb (zq_tables_1_3 _ (List.mem_of_getElem? (i := 229) rfl)) rfl
theorem zw_819 : (Jvm.Cond.selects "NumberDress$Reader" ({ cls := "NumberDress$Reader", name := "give", desc := "(LNumberDress$Code;)LNumberDress$Code;" } : Jvm.MethodName) ({ cls := "NumberDress$Reader", name := "give", desc := "(LNumberDress$Code;)LNumberDress$Code;" } : Jvm.MethodName)) ∈ zT := zw_tb (zq_tables_1_3 _ (List.mem_of_getElem? (i := 230) rfl)) rfl
theorem zw_820 : (Jvm.Cond.code ({ cls := "NumberDress$Reader", name := "give", desc := "(LNumberDress$Code;)LNumberDress$Code;" } : Jvm.MethodName) prog_9_method_3_code (3 : Nat) (Option.some (Jvm.ClassFile.FieldType.object "NumberDress$Code"))) ∈ zT := zw_tb (zq_tables_1_3 _ (List.mem_of_getElem? (i := 231) rfl)) rfl
theorem zw_822 : (Jvm.Cond.methodLink "NumberDressLaw" (47 : Nat) ({ cls := "NumberDress", name := "text", desc := "()V" } : Jvm.MethodName)) ∈ zT := zw_tb (zq_tables_1_3 _ (List.mem_of_getElem? (i := 233) rfl)) rfl
theorem zw_823 : (Jvm.Cond.instanceMethod ({ cls := "NumberDress", name := "text", desc := "()V" } : Jvm.MethodName)) ∈ zT := zw_tb (zq_tables_1_3 _ (List.mem_of_getElem? (i := 234) rfl)) rfl
theorem zw_824 : (Jvm.Cond.selects "NumberDress" ({ cls := "NumberDress", name := "text", desc := "()V" } : Jvm.MethodName) ({ cls := "NumberDress", name := "text", desc := "()V" } : Jvm.MethodName)) ∈ zT := zw_tb (zq_tables_1_3 _ (List.mem_of_getElem? (i := 235) rfl)) rfl
theorem zw_825 : (Jvm.Cond.code ({ cls := "NumberDress", name := "text", desc := "()V" } : Jvm.MethodName) prog_1_method_6_code (1 : Nat) (Option.none : Option Jvm.ClassFile.FieldType)) ∈ zT := zw_tb (zq_tables_1_3 _ (List.mem_of_getElem? (i := 236) rfl)) rfl
theorem zw_826 : (Jvm.Cond.methodLink "NumberDress" (86 : Nat) ({ cls := "NumberDress$Value", name := "takeText", desc := "([CI)V" } : Jvm.MethodName)) ∈ zT := zw_tb (zq_tables_1_3 _ (List.mem_of_getElem? (i := 237) rfl)) rfl
theorem zw_827 : (Jvm.Cond.instanceMethod ({ cls := "NumberDress$Value", name := "takeText", desc := "([CI)V" } : Jvm.MethodName)) ∈ zT := zw_tb (zq_tables_1_3 _ (List.mem_of_getElem? (i := 238) rfl)) rfl
theorem zw_828 : (Jvm.Cond.selects "NumberDress$Value" ({ cls := "NumberDress$Value", name := "takeText", desc := "([CI)V" } : Jvm.MethodName) ({ cls := "NumberDress$Value", name := "takeText", desc := "([CI)V" } : Jvm.MethodName)) ∈ zT := zw_tb (zq_tables_1_3 _ (List.mem_of_getElem? (i := 239) rfl)) rfl
theorem zw_829 : (Jvm.Cond.code ({ cls := "NumberDress$Value", name := "takeText", desc := "([CI)V" } : Jvm.MethodName) prog_12_method_3_code (4 : Nat) (Option.none : Option Jvm.ClassFile.FieldType)) ∈ zT := zw_tb (zq_tables_1_4 _ (List.mem_of_getElem? (i := 0) rfl)) rfl
theorem zw_830 : (Jvm.Cond.methodLink "NumberDressLaw" (51 : Nat) ({ cls := "NumberDress", name := "look", desc := "()I" } : Jvm.MethodName)) ∈ zT := zw_tb (zq_tables_1_4 _ (List.mem_of_getElem? (i := 1) rfl)) rfl
theorem zw_831 : (Jvm.Cond.instanceMethod ({ cls := "NumberDress", name := "look", desc := "()I" } : Jvm.MethodName)) ∈ zT := zw_tb (zq_tables_1_4 _ (List.mem_of_getElem? (i := 2) rfl)) rfl
theorem zw_832 : (Jvm.Cond.selects "NumberDress" ({ cls := "NumberDress", name := "look", desc := "()I" } : Jvm.MethodName) ({ cls := "NumberDress", name := "look", desc := "()I" } : Jvm.MethodName)) ∈ zT := zw_tb (zq_tables_1_4 _ (List.mem_of_getElem? (i := 3) rfl)) rfl
theorem zw_833 : (Jvm.Cond.code ({ cls := "NumberDress", name := "look", desc := "()I" } : Jvm.MethodName) prog_1_method_7_code (1 : Nat) (Option.some Jvm.ClassFile.FieldType.int)) ∈ zT := zw_tb (zq_tables_1_4 _ (List.mem_of_getElem? (i := 4) rfl)) rfl
theorem zw_834 : (Jvm.Cond.methodLink "NumberDress" (90 : Nat) ({ cls := "NumberDress$Dresser", name := "dress", desc := "(LNumberDress$Code;LNumberDress$Value;LNumberDress$Look;)V" } : Jvm.MethodName)) ∈ zT := zw_tb (zq_tables_1_4 _ (List.mem_of_getElem? (i := 5) rfl)) rfl
theorem zw_835 : (Jvm.Cond.instanceMethod ({ cls := "NumberDress$Dresser", name := "dress", desc := "(LNumberDress$Code;LNumberDress$Value;LNumberDress$Look;)V" } : Jvm.MethodName)) ∈ zT := zw_tb (zq_tables_1_4 _ (List.mem_of_getElem? (i := 6) rfl)) rfl
theorem zw_836 : (Jvm.Cond.selects "NumberDress$Dresser" ({ cls := "NumberDress$Dresser", name := "dress", desc := "(LNumberDress$Code;LNumberDress$Value;LNumberDress$Look;)V" } : Jvm.MethodName) ({ cls := "NumberDress$Dresser", name := "dress", desc := "(LNumberDress$Code;LNumberDress$Value;LNumberDress$Look;)V" } : Jvm.MethodName)) ∈ zT := zw_tb (zq_tables_1_4 _ (List.mem_of_getElem? (i := 7) rfl)) rfl
theorem zw_837 : (Jvm.Cond.code ({ cls := "NumberDress$Dresser", name := "dress", desc := "(LNumberDress$Code;LNumberDress$Value;LNumberDress$Look;)V" } : Jvm.MethodName) prog_5_method_2_code (7 : Nat) (Option.none : Option Jvm.ClassFile.FieldType)) ∈ zT := zw_tb (zq_tables_1_4 _ (List.mem_of_getElem? (i := 8) rfl)) rfl
theorem zw_838 : (Jvm.Cond.methodLink "NumberDress$Dresser" (38 : Nat) ({ cls := "NumberDress$Look", name := "clear", desc := "()V" } : Jvm.MethodName)) ∈ zT := zw_tb (zq_tables_1_4 _ (List.mem_of_getElem? (i := 9) rfl)) rfl
theorem zw_839 : (Jvm.Cond.instanceMethod ({ cls := "NumberDress$Look", name := "clear", desc := "()V" } : Jvm.MethodName)) ∈ zT := zw_tb (zq_tables_1_4 _ (List.mem_of_getElem? (i := 10) rfl)) rfl
theorem zw_840 : (Jvm.Cond.selects "NumberDress$Look" ({ cls := "NumberDress$Look", name := "clear", desc := "()V" } : Jvm.MethodName) ({ cls := "NumberDress$Look", name := "clear", desc := "()V" } : Jvm.MethodName)) ∈ zT := zw_tb (zq_tables_1_4 _ (List.mem_of_getElem? (i := 11) rfl)) rfl
theorem zw_841 : (Jvm.Cond.code ({ cls := "NumberDress$Look", name := "clear", desc := "()V" } : Jvm.MethodName) prog_7_method_2_code (1 : Nat) (Option.none : Option Jvm.ClassFile.FieldType)) ∈ zT := zw_tb (zq_tables_1_4 _ (List.mem_of_getElem? (i := 12) rfl)) rfl
theorem zw_842 : (Jvm.Cond.methodLink "NumberDress$Dresser" (41 : Nat) ({ cls := "NumberDress$Code", name := "sectionFor", desc := "(LNumberDress$Value;)I" } : Jvm.MethodName)) ∈ zT := zw_tb (zq_tables_1_4 _ (List.mem_of_getElem? (i := 13) rfl)) rfl
theorem zw_843 : (Jvm.Cond.instanceMethod ({ cls := "NumberDress$Code", name := "sectionFor", desc := "(LNumberDress$Value;)I" } : Jvm.MethodName)) ∈ zT := zw_tb (zq_tables_1_4 _ (List.mem_of_getElem? (i := 14) rfl)) rfl
theorem zw_844 : (Jvm.Cond.selects "NumberDress$Code" ({ cls := "NumberDress$Code", name := "sectionFor", desc := "(LNumberDress$Value;)I" } : Jvm.MethodName) ({ cls := "NumberDress$Code", name := "sectionFor", desc := "(LNumberDress$Value;)I" } : Jvm.MethodName)) ∈ zT := zw_tb (zq_tables_1_4 _ (List.mem_of_getElem? (i := 15) rfl)) rfl
theorem zw_845 : (Jvm.Cond.code ({ cls := "NumberDress$Code", name := "sectionFor", desc := "(LNumberDress$Value;)I" } : Jvm.MethodName) prog_2_method_10_code (3 : Nat) (Option.some Jvm.ClassFile.FieldType.int)) ∈ zT := zw_tb (zq_tables_1_4 _ (List.mem_of_getElem? (i := 16) rfl)) rfl
theorem zw_846 : (Jvm.Cond.methodLink "NumberDress$Code" (49 : Nat) ({ cls := "NumberDress$Code", name := "sectionForText", desc := "()I" } : Jvm.MethodName)) ∈ zT := zw_tb (zq_tables_1_4 _ (List.mem_of_getElem? (i := 17) rfl)) rfl
theorem zw_848 : (Jvm.Cond.instanceMethod ({ cls := "NumberDress$Code", name := "sectionForText", desc := "()I" } : Jvm.MethodName)) ∈ zT := zw_tb (zq_tables_1_4 _ (List.mem_of_getElem? (i := 19) rfl)) rfl
theorem zw_849 : (Jvm.Cond.code ({ cls := "NumberDress$Code", name := "sectionForText", desc := "()I" } : Jvm.MethodName) prog_2_method_11_code (3 : Nat) (Option.some Jvm.ClassFile.FieldType.int)) ∈ zT := zw_tb (zq_tables_1_4 _ (List.mem_of_getElem? (i := 20) rfl)) rfl
theorem zw_850 : (Jvm.Cond.methodLink "NumberDress$Code" (36 : Nat) ({ cls := "NumberDress$Code", name := "section", desc := "(I)LNumberDress$Section;" } : Jvm.MethodName)) ∈ zT := zw_tb (zq_tables_1_4 _ (List.mem_of_getElem? (i := 21) rfl)) rfl
theorem zw_851 : (Jvm.Cond.instanceMethod ({ cls := "NumberDress$Code", name := "section", desc := "(I)LNumberDress$Section;" } : Jvm.MethodName)) ∈ zT := zw_tb (zq_tables_1_4 _ (List.mem_of_getElem? (i := 22) rfl)) rfl
theorem zw_852 : (Jvm.Cond.selects "NumberDress$Code" ({ cls := "NumberDress$Code", name := "section", desc := "(I)LNumberDress$Section;" } : Jvm.MethodName) ({ cls := "NumberDress$Code", name := "section", desc := "(I)LNumberDress$Section;" } : Jvm.MethodName)) ∈ zT := zw_tb (zq_tables_1_4 _ (List.mem_of_getElem? (i := 23) rfl)) rfl
theorem zw_853 : (Jvm.Cond.code ({ cls := "NumberDress$Code", name := "section", desc := "(I)LNumberDress$Section;" } : Jvm.MethodName) prog_2_method_4_code (2 : Nat) (Option.some (Jvm.ClassFile.FieldType.object "NumberDress$Section"))) ∈ zT := zw_tb (zq_tables_1_4 _ (List.mem_of_getElem? (i := 24) rfl)) rfl
theorem zw_854 : (Jvm.Cond.methodLink "NumberDress$Code" (53 : Nat) ({ cls := "NumberDress$Code", name := "numberSections", desc := "()I" } : Jvm.MethodName)) ∈ zT := zw_tb (zq_tables_1_4 _ (List.mem_of_getElem? (i := 25) rfl)) rfl
theorem zw_855 : (Jvm.Cond.instanceMethod ({ cls := "NumberDress$Code", name := "numberSections", desc := "()I" } : Jvm.MethodName)) ∈ zT := zw_tb (zq_tables_1_4 _ (List.mem_of_getElem? (i := 26) rfl)) rfl
theorem zw_856 : (Jvm.Cond.selects "NumberDress$Code" ({ cls := "NumberDress$Code", name := "numberSections", desc := "()I" } : Jvm.MethodName) ({ cls := "NumberDress$Code", name := "numberSections", desc := "()I" } : Jvm.MethodName)) ∈ zT := zw_tb (zq_tables_1_4 _ (List.mem_of_getElem? (i := 27) rfl)) rfl
theorem zw_857 : (Jvm.Cond.code ({ cls := "NumberDress$Code", name := "numberSections", desc := "()I" } : Jvm.MethodName) prog_2_method_9_code (4 : Nat) (Option.some Jvm.ClassFile.FieldType.int)) ∈ zT := zw_tb (zq_tables_1_4 _ (List.mem_of_getElem? (i := 28) rfl)) rfl
theorem zw_858 : (Jvm.Cond.methodLink "NumberDress$Dresser" (47 : Nat) ({ cls := "NumberDress$Code", name := "section", desc := "(I)LNumberDress$Section;" } : Jvm.MethodName)) ∈ zT := zw_tb (zq_tables_1_4 _ (List.mem_of_getElem? (i := 29) rfl)) rfl
theorem zw_859 : (Jvm.Cond.methodLink "NumberDress$Dresser" (56 : Nat) ({ cls := "NumberDress$Code", name := "numberSections", desc := "()I" } : Jvm.MethodName)) ∈ zT := zw_tb (zq_tables_1_4 _ (List.mem_of_getElem? (i := 30) rfl)) rfl
theorem zw_860 : (Jvm.Cond.methodLink "NumberDress$Dresser" (69 : Nat) ({ cls := "NumberDress$Dresser", name := "putText", desc := "(LNumberDress$Value;LNumberDress$Look;)V" } : Jvm.MethodName)) ∈ zT := zw_tb (zq_tables_1_4 _ (List.mem_of_getElem? (i := 31) rfl)) rfl
theorem zw_862 : (Jvm.Cond.instanceMethod ({ cls := "NumberDress$Dresser", name := "putText", desc := "(LNumberDress$Value;LNumberDress$Look;)V" } : Jvm.MethodName)) ∈ zT := zw_tb (zq_tables_1_4 _ (List.mem_of_getElem? (i := 33) rfl)) rfl
theorem zw_863 : (Jvm.Cond.code ({ cls := "NumberDress$Dresser", name := "putText", desc := "(LNumberDress$Value;LNumberDress$Look;)V" } : Jvm.MethodName) prog_5_method_4_code (4 : Nat) (Option.none : Option Jvm.ClassFile.FieldType)) ∈ zT := zw_tb (zq_tables_1_4 _ (List.mem_of_getElem? (i := 34) rfl)) rfl
theorem zw_864 : (Jvm.Cond.methodLink "NumberDress$Dresser" (99 : Nat) ({ cls := "NumberDress$Look", name := "put", desc := "(I)V" } : Jvm.MethodName)) ∈ zT := zw_tb (zq_tables_1_4 _ (List.mem_of_getElem? (i := 35) rfl)) rfl
theorem zw_865 : (Jvm.Cond.instanceMethod ({ cls := "NumberDress$Look", name := "put", desc := "(I)V" } : Jvm.MethodName)) ∈ zT := zw_tb (zq_tables_1_4 _ (List.mem_of_getElem? (i := 36) rfl)) rfl
theorem zw_866 : (Jvm.Cond.selects "NumberDress$Look" ({ cls := "NumberDress$Look", name := "put", desc := "(I)V" } : Jvm.MethodName) ({ cls := "NumberDress$Look", name := "put", desc := "(I)V" } : Jvm.MethodName)) ∈ zT := zw_tb (zq_tables_1_4 _ (List.mem_of_getElem? (i := 37) rfl)) rfl
theorem zw_867 : (Jvm.Cond.code ({ cls := "NumberDress$Look", name := "put", desc := "(I)V" } : Jvm.MethodName) prog_7_method_4_code (3 : Nat) (Option.none : Option Jvm.ClassFile.FieldType)) ∈ zT := zw_tb (zq_tables_1_4 _ (List.mem_of_getElem? (i := 38) rfl)) rfl
theorem zw_868 : (Jvm.Cond.methodLink "NumberDress$Look" (19 : Nat) ({ cls := "java/lang/System", name := "arraycopy", desc := "(Ljava/lang/Object;ILjava/lang/Object;II)V" } : Jvm.MethodName)) ∈ zT := zw_tb (zq_tables_1_4 _ (List.mem_of_getElem? (i := 39) rfl)) rfl
theorem zw_869 : (Jvm.Cond.static ({ cls := "java/lang/System", name := "arraycopy", desc := "(Ljava/lang/Object;ILjava/lang/Object;II)V" } : Jvm.MethodName)) ∈ zT := zw_tb (zq_tables_1_4 _ (List.mem_of_getElem? (i := 40) rfl)) rfl
theorem zw_870 : (Jvm.Cond.native ({ cls := "java/lang/System", name := "arraycopy", desc := "(Ljava/lang/Object;ILjava/lang/Object;II)V" } : Jvm.MethodName)) ∈ zT := zw_tb (zq_tables_1_4 _ (List.mem_of_getElem? (i := 41) rfl)) rfl
theorem zw_871 : (Jvm.Cond.methodLink "NumberDress$Dresser" (73 : Nat) ({ cls := "NumberDress$Dresser", name := "dressGeneral", desc := "(LNumberDress$Value;ZLNumberDress$Look;)V" } : Jvm.MethodName)) ∈ zT := zw_tb (zq_tables_1_4 _ (List.mem_of_getElem? (i := 42) rfl)) rfl
theorem zw_873 : (Jvm.Cond.instanceMethod ({ cls := "NumberDress$Dresser", name := "dressGeneral", desc := "(LNumberDress$Value;ZLNumberDress$Look;)V" } : Jvm.MethodName)) ∈ zT := zw_tb (zq_tables_1_4 _ (List.mem_of_getElem? (i := 44) rfl)) rfl
theorem zw_874 : (Jvm.Cond.code ({ cls := "NumberDress$Dresser", name := "dressGeneral", desc := "(LNumberDress$Value;ZLNumberDress$Look;)V" } : Jvm.MethodName) prog_5_method_5_code (9 : Nat) (Option.none : Option Jvm.ClassFile.FieldType)) ∈ zT := zw_tb (zq_tables_1_4 _ (List.mem_of_getElem? (i := 45) rfl)) rfl
theorem zw_877 : (Jvm.Cond.constantLong "NumberDress$Dresser" (121 : Nat) (10 : Int64)) ∈ zT := zw_tb (zq_tables_1_4 _ (List.mem_of_getElem? (i := 48) rfl)) rfl
theorem zw_879 : (Jvm.Cond.static ({ cls := "NumberDress", name := "digitsOf", desc := "(J)I" } : Jvm.MethodName)) ∈ zT := zw_tb (zq_tables_1_4 _ (List.mem_of_getElem? (i := 50) rfl)) rfl
theorem zw_880 : (Jvm.Cond.code ({ cls := "NumberDress", name := "digitsOf", desc := "(J)I" } : Jvm.MethodName) prog_1_method_11_code (3 : Nat) (Option.some Jvm.ClassFile.FieldType.int)) ∈ zT := zw_tb (zq_tables_1_4 _ (List.mem_of_getElem? (i := 51) rfl)) rfl
theorem zw_881 : (Jvm.Cond.fieldLink "NumberDress" (119 : Nat) "NumberDress" "TENS" "[J") ∈ zT := zw_tb (zq_tables_1_4 _ (List.mem_of_getElem? (i := 52) rfl)) rfl
theorem zw_882 : (Jvm.Cond.methodLink "NumberDress" (123 : Nat) ({ cls := "NumberDress", name := "tenTo", desc := "(I)J" } : Jvm.MethodName)) ∈ zT := zw_tb (zq_tables_1_4 _ (List.mem_of_getElem? (i := 53) rfl)) rfl
theorem zw_883 : (Jvm.Cond.static ({ cls := "NumberDress", name := "tenTo", desc := "(I)J" } : Jvm.MethodName)) ∈ zT := zw_tb (zq_tables_1_4 _ (List.mem_of_getElem? (i := 54) rfl)) rfl
theorem zw_884 : (Jvm.Cond.code ({ cls := "NumberDress", name := "tenTo", desc := "(I)J" } : Jvm.MethodName) prog_1_method_10_code (1 : Nat) (Option.some Jvm.ClassFile.FieldType.long)) ∈ zT := zw_tb (zq_tables_1_4 _ (List.mem_of_getElem? (i := 55) rfl)) rfl
theorem zw_885 : (Jvm.Cond.methodLink "NumberDress$Dresser" (127 : Nat) ({ cls := "NumberDress$Dresser", name := "putWithPower", desc := "(JIILNumberDress$Look;)V" } : Jvm.MethodName)) ∈ zT := zw_tb (zq_tables_1_4 _ (List.mem_of_getElem? (i := 56) rfl)) rfl
theorem zw_887 : (Jvm.Cond.instanceMethod ({ cls := "NumberDress$Dresser", name := "putWithPower", desc := "(JIILNumberDress$Look;)V" } : Jvm.MethodName)) ∈ zT := zw_tb (zq_tables_1_4 _ (List.mem_of_getElem? (i := 58) rfl)) rfl
theorem zw_888 : (Jvm.Cond.code ({ cls := "NumberDress$Dresser", name := "putWithPower", desc := "(JIILNumberDress$Look;)V" } : Jvm.MethodName) prog_5_method_7_code (6 : Nat) (Option.none : Option Jvm.ClassFile.FieldType)) ∈ zT := zw_tb (zq_tables_1_4 _ (List.mem_of_getElem? (i := 59) rfl)) rfl
theorem zw_889 : (Jvm.Cond.methodLink "NumberDress$Dresser" (145 : Nat) ({ cls := "NumberDress$Dresser", name := "putWithPoint", desc := "(JIILNumberDress$Look;)V" } : Jvm.MethodName)) ∈ zT := zw_tb (zq_tables_1_4 _ (List.mem_of_getElem? (i := 60) rfl)) rfl
theorem zw_891 : (Jvm.Cond.instanceMethod ({ cls := "NumberDress$Dresser", name := "putWithPoint", desc := "(JIILNumberDress$Look;)V" } : Jvm.MethodName)) ∈ zT := zw_tb (zq_tables_1_4 _ (List.mem_of_getElem? (i := 62) rfl)) rfl
theorem zw_892 : (Jvm.Cond.code ({ cls := "NumberDress$Dresser", name := "putWithPoint", desc := "(JIILNumberDress$Look;)V" } : Jvm.MethodName) prog_5_method_6_code (9 : Nat) (Option.none : Option Jvm.ClassFile.FieldType)) ∈ zT := zw_tb (zq_tables_1_4 _ (List.mem_of_getElem? (i := 63) rfl)) rfl
theorem zw_893 : (Jvm.Cond.methodLink "NumberDress$Dresser" (141 : Nat) ({ cls := "NumberDress$Look", name := "putNumber", desc := "(JI)V" } : Jvm.MethodName)) ∈ zT := zw_tb (zq_tables_1_4 _ (List.mem_of_getElem? (i := 64) rfl)) rfl
theorem zw_894 : (Jvm.Cond.instanceMethod ({ cls := "NumberDress$Look", name := "putNumber", desc := "(JI)V" } : Jvm.MethodName)) ∈ zT := zw_tb (zq_tables_1_4 _ (List.mem_of_getElem? (i := 65) rfl)) rfl
theorem zw_895 : (Jvm.Cond.selects "NumberDress$Look" ({ cls := "NumberDress$Look", name := "putNumber", desc := "(JI)V" } : Jvm.MethodName) ({ cls := "NumberDress$Look", name := "putNumber", desc := "(JI)V" } : Jvm.MethodName)) ∈ zT := zw_tb (zq_tables_1_4 _ (List.mem_of_getElem? (i := 66) rfl)) rfl
theorem zw_896 : (Jvm.Cond.code ({ cls := "NumberDress$Look", name := "putNumber", desc := "(JI)V" } : Jvm.MethodName) prog_7_method_7_code (7 : Nat) (Option.none : Option Jvm.ClassFile.FieldType)) ∈ zT := zw_tb (zq_tables_1_4 _ (List.mem_of_getElem? (i := 67) rfl)) rfl
theorem zw_899 : (Jvm.Cond.constantLong "NumberDress$Look" (46 : Nat) (48 : Int64)) ∈ zT := zw_tb (zq_tables_1_4 _ (List.mem_of_getElem? (i := 70) rfl)) rfl
theorem zw_900 : (Jvm.Cond.constantLong "NumberDress$Look" (48 : Nat) (10 : Int64)) ∈ zT := zw_tb (zq_tables_1_4 _ (List.mem_of_getElem? (i := 71) rfl)) rfl
theorem zw_901 : (Jvm.Cond.methodLink "NumberDress$Look" (34 : Nat) ({ cls := "NumberDress$Look", name := "put", desc := "(I)V" } : Jvm.MethodName)) ∈ zT := zw_tb (zq_tables_1_4 _ (List.mem_of_getElem? (i := 72) rfl)) rfl
theorem zw_902 : (Jvm.Cond.methodLink "NumberDress$Dresser" (137 : Nat) ({ cls := "NumberDress$Look", name := "putTimes", desc := "(II)V" } : Jvm.MethodName)) ∈ zT := zw_tb (zq_tables_1_4 _ (List.mem_of_getElem? (i := 73) rfl)) rfl
theorem zw_903 : (Jvm.Cond.instanceMethod ({ cls := "NumberDress$Look", name := "putTimes", desc := "(II)V" } : Jvm.MethodName)) ∈ zT := zw_tb (zq_tables_1_4 _ (List.mem_of_getElem? (i := 74) rfl)) rfl
theorem zw_904 : (Jvm.Cond.selects "NumberDress$Look" ({ cls := "NumberDress$Look", name := "putTimes", desc := "(II)V" } : Jvm.MethodName) ({ cls := "NumberDress$Look", name := "putTimes", desc := "(II)V" } : Jvm.MethodName)) ∈ zT := zw_tb (zq_tables_1_4 _ (List.mem_of_getElem? (i := 75) rfl)) rfl
theorem zw_905 : (Jvm.Cond.code ({ cls := "NumberDress$Look", name := "putTimes", desc := "(II)V" } : Jvm.MethodName) prog_7_method_6_code (4 : Nat) (Option.none : Option Jvm.ClassFile.FieldType)) ∈ zT := zw_tb (zq_tables_1_4 _ (List.mem_of_getElem? (i := 76) rfl)) rfl
theorem zw_907 : (Jvm.Cond.methodLink "NumberDress$Dresser" (152 : Nat) ({ cls := "java/lang/Math", name := "abs", desc := "(I)I" } : Jvm.MethodName)) ∈ zT := zw_tb (zq_tables_1_4 _ (List.mem_of_getElem? (i := 78) rfl)) rfl
theorem zw_908 : (Jvm.Cond.static ({ cls := "java/lang/Math", name := "abs", desc := "(I)I" } : Jvm.MethodName)) ∈ zT := zw_tb (zq_tables_1_4 _ (List.mem_of_getElem? (i := 79) rfl)) rfl
theorem zw_909 : (Jvm.Cond.code ({ cls := "java/lang/Math", name := "abs", desc := "(I)I" } : Jvm.MethodName) prog_19_method_59_code (1 : Nat) (Option.some Jvm.ClassFile.FieldType.int)) ∈ zT := zw_tb (zq_tables_1_4 _ (List.mem_of_getElem? (i := 80) rfl)) rfl
theorem zw_911 : (Jvm.Cond.methodLink "NumberDress$Dresser" (133 : Nat) ({ cls := "NumberDress$Look", name := "putAll", desc := "(Ljava/lang/String;)V" } : Jvm.MethodName)) ∈ zT := zw_tb (zq_tables_1_4 _ (List.mem_of_getElem? (i := 82) rfl)) rfl
theorem zw_912 : (Jvm.Cond.instanceMethod ({ cls := "NumberDress$Look", name := "putAll", desc := "(Ljava/lang/String;)V" } : Jvm.MethodName)) ∈ zT := zw_tb (zq_tables_1_4 _ (List.mem_of_getElem? (i := 83) rfl)) rfl
theorem zw_913 : (Jvm.Cond.selects "NumberDress$Look" ({ cls := "NumberDress$Look", name := "putAll", desc := "(Ljava/lang/String;)V" } : Jvm.MethodName) ({ cls := "NumberDress$Look", name := "putAll", desc := "(Ljava/lang/String;)V" } : Jvm.MethodName)) ∈ zT := zw_tb (zq_tables_1_4 _ (List.mem_of_getElem? (i := 84) rfl)) rfl
theorem zw_914 : (Jvm.Cond.code ({ cls := "NumberDress$Look", name := "putAll", desc := "(Ljava/lang/String;)V" } : Jvm.MethodName) prog_7_method_5_code (3 : Nat) (Option.none : Option Jvm.ClassFile.FieldType)) ∈ zT := zw_tb (zq_tables_1_4 _ (List.mem_of_getElem? (i := 85) rfl)) rfl
theorem zw_915 : (Jvm.Cond.methodLink "NumberDress$Look" (25 : Nat) ({ cls := "java/lang/String", name := "length", desc := "()I" } : Jvm.MethodName)) ∈ zT := zw_tb (zq_tables_1_4 _ (List.mem_of_getElem? (i := 86) rfl)) rfl
theorem zw_916 : (Jvm.Cond.methodLink "NumberDress$Look" (30 : Nat) ({ cls := "java/lang/String", name := "charAt", desc := "(I)C" } : Jvm.MethodName)) ∈ zT := zw_tb (zq_tables_1_4 _ (List.mem_of_getElem? (i := 87) rfl)) rfl
theorem zw_917 : (Jvm.Cond.methodLink "NumberDress$Dresser" (77 : Nat) ({ cls := "NumberDress$NumberDresser", name := "dress", desc := "(LNumberDress$Code;LNumberDress$Section;LNumberDress$Value;ZLNumberDress$Look;)V" } : Jvm.MethodName)) ∈ zT := zw_tb (zq_tables_1_4 _ (List.mem_of_getElem? (i := 88) rfl)) rfl
theorem zw_918 : (Jvm.Cond.instanceMethod ({ cls := "NumberDress$NumberDresser", name := "dress", desc := "(LNumberDress$Code;LNumberDress$Section;LNumberDress$Value;ZLNumberDress$Look;)V" } : Jvm.MethodName)) ∈ zT := zw_tb (zq_tables_1_4 _ (List.mem_of_getElem? (i := 89) rfl)) rfl
theorem zw_919 : (Jvm.Cond.selects "NumberDress$NumberDresser" ({ cls := "NumberDress$NumberDresser", name := "dress", desc := "(LNumberDress$Code;LNumberDress$Section;LNumberDress$Value;ZLNumberDress$Look;)V" } : Jvm.MethodName) ({ cls := "NumberDress$NumberDresser", name := "dress", desc := "(LNumberDress$Code;LNumberDress$Section;LNumberDress$Value;ZLNumberDress$Look;)V" } : Jvm.MethodName)) ∈ zT := zw_tb (zq_tables_1_4 _ (List.mem_of_getElem? (i := 90) rfl)) rfl
theorem zw_920 : (Jvm.Cond.code ({ cls := "NumberDress$NumberDresser", name := "dress", desc := "(LNumberDress$Code;LNumberDress$Section;LNumberDress$Value;ZLNumberDress$Look;)V" } : Jvm.MethodName) prog_8_method_2_code (7 : Nat) (Option.none : Option Jvm.ClassFile.FieldType)) ∈ zT := zw_tb (zq_tables_1_4 _ (List.mem_of_getElem? (i := 91) rfl)) rfl
theorem zw_921 : (Jvm.Cond.methodLink "NumberDress$NumberDresser" (27 : Nat) ({ cls := "NumberDress$NumberDresser", name := "takeWithPower", desc := "(LNumberDress$Section;LNumberDress$Value;)V" } : Jvm.MethodName)) ∈ zT := zw_tb (zq_tables_1_4 _ (List.mem_of_getElem? (i := 92) rfl)) rfl
theorem zw_923 : (Jvm.Cond.instanceMethod ({ cls := "NumberDress$NumberDresser", name := "takeWithPower", desc := "(LNumberDress$Section;LNumberDress$Value;)V" } : Jvm.MethodName)) ∈ zT := zw_tb (zq_tables_1_4 _ (List.mem_of_getElem? (i := 94) rfl)) rfl
theorem zw_924 : (Jvm.Cond.code ({ cls := "NumberDress$NumberDresser", name := "takeWithPower", desc := "(LNumberDress$Section;LNumberDress$Value;)V" } : Jvm.MethodName) prog_8_method_3_code (5 : Nat) (Option.none : Option Jvm.ClassFile.FieldType)) ∈ zT := zw_tb (zq_tables_1_4 _ (List.mem_of_getElem? (i := 95) rfl)) rfl
theorem zw_925 : (Jvm.Cond.methodLink "NumberDress$NumberDresser" (69 : Nat) ({ cls := "java/lang/Math", name := "max", desc := "(II)I" } : Jvm.MethodName)) ∈ zT := zw_tb (zq_tables_1_4 _ (List.mem_of_getElem? (i := 96) rfl)) rfl
theorem zw_927 : (Jvm.Cond.methodLink "NumberDress$NumberDresser" (79 : Nat) ({ cls := "java/lang/Math", name := "floorDiv", desc := "(II)I" } : Jvm.MethodName)) ∈ zT := zw_tb (zq_tables_1_4 _ (List.mem_of_getElem? (i := 98) rfl)) rfl
theorem zw_928 : (Jvm.Cond.static ({ cls := "java/lang/Math", name := "floorDiv", desc := "(II)I" } : Jvm.MethodName)) ∈ zT := zw_tb (zq_tables_1_4 _ (List.mem_of_getElem? (i := 99) rfl)) rfl
theorem zw_929 : (Jvm.Cond.code ({ cls := "java/lang/Math", name := "floorDiv", desc := "(II)I" } : Jvm.MethodName) prog_19_method_47_code (3 : Nat) (Option.some Jvm.ClassFile.FieldType.int)) ∈ zT := zw_tb (zq_tables_1_4 _ (List.mem_of_getElem? (i := 100) rfl)) rfl
theorem zw_930 : (Jvm.Cond.methodLink "NumberDress$NumberDresser" (48 : Nat) ({ cls := "NumberDress$Digits", name := "round", desc := "(JII)V" } : Jvm.MethodName)) ∈ zT := zw_tb (zq_tables_1_4 _ (List.mem_of_getElem? (i := 101) rfl)) rfl
theorem zw_931 : (Jvm.Cond.instanceMethod ({ cls := "NumberDress$Digits", name := "round", desc := "(JII)V" } : Jvm.MethodName)) ∈ zT := zw_tb (zq_tables_1_4 _ (List.mem_of_getElem? (i := 102) rfl)) rfl
theorem zw_932 : (Jvm.Cond.selects "NumberDress$Digits" ({ cls := "NumberDress$Digits", name := "round", desc := "(JII)V" } : Jvm.MethodName) ({ cls := "NumberDress$Digits", name := "round", desc := "(JII)V" } : Jvm.MethodName)) ∈ zT := zw_tb (zq_tables_1_4 _ (List.mem_of_getElem? (i := 103) rfl)) rfl
theorem zw_933 : (Jvm.Cond.code ({ cls := "NumberDress$Digits", name := "round", desc := "(JII)V" } : Jvm.MethodName) prog_4_method_3_code (6 : Nat) (Option.none : Option Jvm.ClassFile.FieldType)) ∈ zT := zw_tb (zq_tables_1_4 _ (List.mem_of_getElem? (i := 104) rfl)) rfl
theorem zw_935 : (Jvm.Cond.static ({ cls := "NumberDress", name := "cutRounded", desc := "(JI)J" } : Jvm.MethodName)) ∈ zT := zw_tb (zq_tables_1_4 _ (List.mem_of_getElem? (i := 106) rfl)) rfl
theorem zw_936 : (Jvm.Cond.code ({ cls := "NumberDress", name := "cutRounded", desc := "(JI)J" } : Jvm.MethodName) prog_1_method_12_code (9 : Nat) (Option.some Jvm.ClassFile.FieldType.long)) ∈ zT := zw_tb (zq_tables_1_4 _ (List.mem_of_getElem? (i := 107) rfl)) rfl
theorem zw_937 : (Jvm.Cond.methodLink "NumberDress$Digits" (33 : Nat) ({ cls := "NumberDress$Digits", name := "take", desc := "(JII)V" } : Jvm.MethodName)) ∈ zT := zw_tb (zq_tables_1_4 _ (List.mem_of_getElem? (i := 108) rfl)) rfl
theorem zw_938 : (Jvm.Cond.instanceMethod ({ cls := "NumberDress$Digits", name := "take", desc := "(JII)V" } : Jvm.MethodName)) ∈ zT := zw_tb (zq_tables_1_4 _ (List.mem_of_getElem? (i := 109) rfl)) rfl
theorem zw_939 : (Jvm.Cond.selects "NumberDress$Digits" ({ cls := "NumberDress$Digits", name := "take", desc := "(JII)V" } : Jvm.MethodName) ({ cls := "NumberDress$Digits", name := "take", desc := "(JII)V" } : Jvm.MethodName)) ∈ zT := zw_tb (zq_tables_1_4 _ (List.mem_of_getElem? (i := 110) rfl)) rfl
theorem zw_940 : (Jvm.Cond.code ({ cls := "NumberDress$Digits", name := "take", desc := "(JII)V" } : Jvm.MethodName) prog_4_method_2_code (5 : Nat) (Option.none : Option Jvm.ClassFile.FieldType)) ∈ zT := zw_tb (zq_tables_1_4 _ (List.mem_of_getElem? (i := 111) rfl)) rfl
theorem zw_942 : (Jvm.Cond.methodLink "NumberDress$NumberDresser" (85 : Nat) ({ cls := "NumberDress$Digits", name := "wholes", desc := "()I" } : Jvm.MethodName)) ∈ zT := zw_tb (zq_tables_1_4 _ (List.mem_of_getElem? (i := 113) rfl)) rfl
theorem zw_943 : (Jvm.Cond.instanceMethod ({ cls := "NumberDress$Digits", name := "wholes", desc := "()I" } : Jvm.MethodName)) ∈ zT := zw_tb (zq_tables_1_4 _ (List.mem_of_getElem? (i := 114) rfl)) rfl
theorem zw_944 : (Jvm.Cond.selects "NumberDress$Digits" ({ cls := "NumberDress$Digits", name := "wholes", desc := "()I" } : Jvm.MethodName) ({ cls := "NumberDress$Digits", name := "wholes", desc := "()I" } : Jvm.MethodName)) ∈ zT := zw_tb (zq_tables_1_4 _ (List.mem_of_getElem? (i := 115) rfl)) rfl
theorem zw_945 : (Jvm.Cond.code ({ cls := "NumberDress$Digits", name := "wholes", desc := "()I" } : Jvm.MethodName) prog_4_method_5_code (1 : Nat) (Option.some Jvm.ClassFile.FieldType.int)) ∈ zT := zw_tb (zq_tables_1_4 _ (List.mem_of_getElem? (i := 116) rfl)) rfl
theorem zw_946 : (Jvm.Cond.methodLink "NumberDress$Digits" (37 : Nat) ({ cls := "java/lang/Math", name := "max", desc := "(II)I" } : Jvm.MethodName)) ∈ zT := zw_tb (zq_tables_1_4 _ (List.mem_of_getElem? (i := 117) rfl)) rfl
theorem zw_947 : (Jvm.Cond.methodLink "NumberDress$NumberDresser" (88 : Nat) ({ cls := "java/lang/Math", name := "abs", desc := "(I)I" } : Jvm.MethodName)) ∈ zT := zw_tb (zq_tables_1_4 _ (List.mem_of_getElem? (i := 118) rfl)) rfl
theorem zw_948 : (Jvm.Cond.methodLink "NumberDress$NumberDresser" (92 : Nat) ({ cls := "NumberDress$Digits", name := "take", desc := "(JII)V" } : Jvm.MethodName)) ∈ zT := zw_tb (zq_tables_1_4 _ (List.mem_of_getElem? (i := 119) rfl)) rfl
theorem zw_949 : (Jvm.Cond.methodLink "NumberDress$NumberDresser" (52 : Nat) ({ cls := "NumberDress$Digits", name := "isZero", desc := "()Z" } : Jvm.MethodName)) ∈ zT := zw_tb (zq_tables_1_4 _ (List.mem_of_getElem? (i := 120) rfl)) rfl
theorem zw_950 : (Jvm.Cond.instanceMethod ({ cls := "NumberDress$Digits", name := "isZero", desc := "()Z" } : Jvm.MethodName)) ∈ zT := zw_tb (zq_tables_1_4 _ (List.mem_of_getElem? (i := 121) rfl)) rfl
theorem zw_951 : (Jvm.Cond.selects "NumberDress$Digits" ({ cls := "NumberDress$Digits", name := "isZero", desc := "()Z" } : Jvm.MethodName) ({ cls := "NumberDress$Digits", name := "isZero", desc := "()Z" } : Jvm.MethodName)) ∈ zT := zw_tb (zq_tables_1_4 _ (List.mem_of_getElem? (i := 122) rfl)) rfl
theorem zw_952 : (Jvm.Cond.code ({ cls := "NumberDress$Digits", name := "isZero", desc := "()Z" } : Jvm.MethodName) prog_4_method_4_code (1 : Nat) (Option.some Jvm.ClassFile.FieldType.boolean)) ∈ zT := zw_tb (zq_tables_1_4 _ (List.mem_of_getElem? (i := 123) rfl)) rfl
theorem zw_953 : (Jvm.Cond.methodLink "NumberDress$NumberDresser" (56 : Nat) ({ cls := "NumberDress$Look", name := "put", desc := "(I)V" } : Jvm.MethodName)) ∈ zT := zw_tb (zq_tables_1_4 _ (List.mem_of_getElem? (i := 124) rfl)) rfl
theorem zw_954 : (Jvm.Cond.methodLink "NumberDress$NumberDresser" (62 : Nat) ({ cls := "NumberDress$NumberDresser", name := "putItems", desc := "(LNumberDress$Code;LNumberDress$Section;LNumberDress$Look;)V" } : Jvm.MethodName)) ∈ zT := zw_tb (zq_tables_1_4 _ (List.mem_of_getElem? (i := 125) rfl)) rfl
theorem zw_956 : (Jvm.Cond.instanceMethod ({ cls := "NumberDress$NumberDresser", name := "putItems", desc := "(LNumberDress$Code;LNumberDress$Section;LNumberDress$Look;)V" } : Jvm.MethodName)) ∈ zT := zw_tb (zq_tables_1_4 _ (List.mem_of_getElem? (i := 127) rfl)) rfl
theorem zw_957 : (Jvm.Cond.code ({ cls := "NumberDress$NumberDresser", name := "putItems", desc := "(LNumberDress$Code;LNumberDress$Section;LNumberDress$Look;)V" } : Jvm.MethodName) prog_8_method_4_code (9 : Nat) (Option.none : Option Jvm.ClassFile.FieldType)) ∈ zT := zw_tb (zq_tables_1_4 _ (List.mem_of_getElem? (i := 128) rfl)) rfl
theorem zw_958 : (Jvm.Cond.methodLink "NumberDress$NumberDresser" (104 : Nat) ({ cls := "NumberDress$Code", name := "mark", desc := "(I)I" } : Jvm.MethodName)) ∈ zT := zw_tb (zq_tables_1_4 _ (List.mem_of_getElem? (i := 129) rfl)) rfl
theorem zw_959 : (Jvm.Cond.methodLink "NumberDress$NumberDresser" (109 : Nat) ({ cls := "NumberDress$Code", name := "kind", desc := "(I)I" } : Jvm.MethodName)) ∈ zT := zw_tb (zq_tables_1_4 _ (List.mem_of_getElem? (i := 130) rfl)) rfl
theorem zw_960 : (Jvm.Cond.methodLink "NumberDress$NumberDresser" (115 : Nat) ({ cls := "NumberDress$Look", name := "putPlace", desc := "(LNumberDress$Digits;IIIZ)V" } : Jvm.MethodName)) ∈ zT := zw_tb (zq_tables_1_4 _ (List.mem_of_getElem? (i := 131) rfl)) rfl
theorem zw_961 : (Jvm.Cond.instanceMethod ({ cls := "NumberDress$Look", name := "putPlace", desc := "(LNumberDress$Digits;IIIZ)V" } : Jvm.MethodName)) ∈ zT := zw_tb (zq_tables_1_4 _ (List.mem_of_getElem? (i := 132) rfl)) rfl
theorem zw_962 : (Jvm.Cond.selects "NumberDress$Look" ({ cls := "NumberDress$Look", name := "putPlace", desc := "(LNumberDress$Digits;IIIZ)V" } : Jvm.MethodName) ({ cls := "NumberDress$Look", name := "putPlace", desc := "(LNumberDress$Digits;IIIZ)V" } : Jvm.MethodName)) ∈ zT := zw_tb (zq_tables_1_4 _ (List.mem_of_getElem? (i := 133) rfl)) rfl
theorem zw_963 : (Jvm.Cond.code ({ cls := "NumberDress$Look", name := "putPlace", desc := "(LNumberDress$Digits;IIIZ)V" } : Jvm.MethodName) prog_7_method_8_code (10 : Nat) (Option.none : Option Jvm.ClassFile.FieldType)) ∈ zT := zw_tb (zq_tables_1_4 _ (List.mem_of_getElem? (i := 134) rfl)) rfl
theorem zw_964 : (Jvm.Cond.methodLink "NumberDress$Look" (50 : Nat) ({ cls := "NumberDress$Digits", name := "wholes", desc := "()I" } : Jvm.MethodName)) ∈ zT := zw_tb (zq_tables_1_4 _ (List.mem_of_getElem? (i := 135) rfl)) rfl
theorem zw_965 : (Jvm.Cond.methodLink "NumberDress$Look" (55 : Nat) ({ cls := "java/lang/Math", name := "max", desc := "(II)I" } : Jvm.MethodName)) ∈ zT := zw_tb (zq_tables_1_4 _ (List.mem_of_getElem? (i := 136) rfl)) rfl
theorem zw_966 : (Jvm.Cond.methodLink "NumberDress$Look" (61 : Nat) ({ cls := "NumberDress$Digits", name := "digit", desc := "(I)I" } : Jvm.MethodName)) ∈ zT := zw_tb (zq_tables_1_4 _ (List.mem_of_getElem? (i := 137) rfl)) rfl
theorem zw_967 : (Jvm.Cond.instanceMethod ({ cls := "NumberDress$Digits", name := "digit", desc := "(I)I" } : Jvm.MethodName)) ∈ zT := zw_tb (zq_tables_1_4 _ (List.mem_of_getElem? (i := 138) rfl)) rfl
theorem zw_968 : (Jvm.Cond.selects "NumberDress$Digits" ({ cls := "NumberDress$Digits", name := "digit", desc := "(I)I" } : Jvm.MethodName) ({ cls := "NumberDress$Digits", name := "digit", desc := "(I)I" } : Jvm.MethodName)) ∈ zT := zw_tb (zq_tables_1_4 _ (List.mem_of_getElem? (i := 139) rfl)) rfl
theorem zw_969 : (Jvm.Cond.code ({ cls := "NumberDress$Digits", name := "digit", desc := "(I)I" } : Jvm.MethodName) prog_4_method_6_code (3 : Nat) (Option.some Jvm.ClassFile.FieldType.int)) ∈ zT := zw_tb (zq_tables_1_4 _ (List.mem_of_getElem? (i := 140) rfl)) rfl
theorem zw_972 : (Jvm.Cond.constantLong "NumberDress$Digits" (51 : Nat) (10 : Int64)) ∈ zT := zw_tb (zq_tables_1_4 _ (List.mem_of_getElem? (i := 143) rfl)) rfl
theorem zw_973 : (Jvm.Cond.methodLink "NumberDress$NumberDresser" (119 : Nat) ({ cls := "NumberDress$NumberDresser", name := "putPoint", desc := "(LNumberDress$Section;LNumberDress$Look;)V" } : Jvm.MethodName)) ∈ zT := zw_tb (zq_tables_1_4 _ (List.mem_of_getElem? (i := 144) rfl)) rfl
theorem zw_975 : (Jvm.Cond.instanceMethod ({ cls := "NumberDress$NumberDresser", name := "putPoint", desc := "(LNumberDress$Section;LNumberDress$Look;)V" } : Jvm.MethodName)) ∈ zT := zw_tb (zq_tables_1_4 _ (List.mem_of_getElem? (i := 146) rfl)) rfl
theorem zw_976 : (Jvm.Cond.code ({ cls := "NumberDress$NumberDresser", name := "putPoint", desc := "(LNumberDress$Section;LNumberDress$Look;)V" } : Jvm.MethodName) prog_8_method_5_code (5 : Nat) (Option.none : Option Jvm.ClassFile.FieldType)) ∈ zT := zw_tb (zq_tables_1_4 _ (List.mem_of_getElem? (i := 147) rfl)) rfl
theorem zw_977 : (Jvm.Cond.methodLink "NumberDress$NumberDresser" (131 : Nat) ({ cls := "NumberDress$Digits", name := "digit", desc := "(I)I" } : Jvm.MethodName)) ∈ zT := zw_tb (zq_tables_1_4 _ (List.mem_of_getElem? (i := 148) rfl)) rfl
theorem zw_978 : (Jvm.Cond.methodLink "NumberDress$NumberDresser" (123 : Nat) ({ cls := "NumberDress$NumberDresser", name := "putDecimal", desc := "(IILNumberDress$Look;)V" } : Jvm.MethodName)) ∈ zT := zw_tb (zq_tables_1_4 _ (List.mem_of_getElem? (i := 149) rfl)) rfl
theorem zw_980 : (Jvm.Cond.instanceMethod ({ cls := "NumberDress$NumberDresser", name := "putDecimal", desc := "(IILNumberDress$Look;)V" } : Jvm.MethodName)) ∈ zT := zw_tb (zq_tables_1_4 _ (List.mem_of_getElem? (i := 151) rfl)) rfl
theorem zw_981 : (Jvm.Cond.code ({ cls := "NumberDress$NumberDresser", name := "putDecimal", desc := "(IILNumberDress$Look;)V" } : Jvm.MethodName) prog_8_method_6_code (4 : Nat) (Option.none : Option Jvm.ClassFile.FieldType)) ∈ zT := zw_tb (zq_tables_1_4 _ (List.mem_of_getElem? (i := 152) rfl)) rfl
theorem zw_982 : (Jvm.Cond.methodLink "NumberDress$NumberDresser" (134 : Nat) ({ cls := "NumberDress$Digits", name := "isZeroFrom", desc := "(I)Z" } : Jvm.MethodName)) ∈ zT := zw_tb (zq_tables_1_4 _ (List.mem_of_getElem? (i := 153) rfl)) rfl
theorem zw_983 : (Jvm.Cond.instanceMethod ({ cls := "NumberDress$Digits", name := "isZeroFrom", desc := "(I)Z" } : Jvm.MethodName)) ∈ zT := zw_tb (zq_tables_1_4 _ (List.mem_of_getElem? (i := 154) rfl)) rfl
theorem zw_984 : (Jvm.Cond.selects "NumberDress$Digits" ({ cls := "NumberDress$Digits", name := "isZeroFrom", desc := "(I)Z" } : Jvm.MethodName) ({ cls := "NumberDress$Digits", name := "isZeroFrom", desc := "(I)Z" } : Jvm.MethodName)) ∈ zT := zw_tb (zq_tables_1_4 _ (List.mem_of_getElem? (i := 155) rfl)) rfl
theorem zw_985 : (Jvm.Cond.code ({ cls := "NumberDress$Digits", name := "isZeroFrom", desc := "(I)Z" } : Jvm.MethodName) prog_4_method_7_code (3 : Nat) (Option.some Jvm.ClassFile.FieldType.boolean)) ∈ zT := zw_tb (zq_tables_1_4 _ (List.mem_of_getElem? (i := 156) rfl)) rfl
theorem zw_986 : (Jvm.Cond.methodLink "NumberDress$Digits" (53 : Nat) ({ cls := "NumberDress$Digits", name := "digit", desc := "(I)I" } : Jvm.MethodName)) ∈ zT := zw_tb (zq_tables_1_4 _ (List.mem_of_getElem? (i := 157) rfl)) rfl
theorem zw_987 : (Jvm.Cond.methodLink "NumberDress$NumberDresser" (127 : Nat) ({ cls := "NumberDress$NumberDresser", name := "putPowerSign", desc := "(ILNumberDress$Look;)V" } : Jvm.MethodName)) ∈ zT := zw_tb (zq_tables_1_4 _ (List.mem_of_getElem? (i := 158) rfl)) rfl
theorem zw_989 : (Jvm.Cond.instanceMethod ({ cls := "NumberDress$NumberDresser", name := "putPowerSign", desc := "(ILNumberDress$Look;)V" } : Jvm.MethodName)) ∈ zT := zw_tb (zq_tables_1_4 _ (List.mem_of_getElem? (i := 160) rfl)) rfl
theorem zw_990 : (Jvm.Cond.code ({ cls := "NumberDress$NumberDresser", name := "putPowerSign", desc := "(ILNumberDress$Look;)V" } : Jvm.MethodName) prog_8_method_7_code (3 : Nat) (Option.none : Option Jvm.ClassFile.FieldType)) ∈ zT := zw_tb (zq_tables_1_4 _ (List.mem_of_getElem? (i := 161) rfl)) rfl
theorem zw_991 : (Jvm.Cond.methodLink "NumberDress$Dresser" (81 : Nat) ({ cls := "NumberDress$FractionDresser", name := "dress", desc := "(LNumberDress$Code;LNumberDress$Section;LNumberDress$Value;ZLNumberDress$Look;)V" } : Jvm.MethodName)) ∈ zT := zw_tb (zq_tables_1_4 _ (List.mem_of_getElem? (i := 162) rfl)) rfl
theorem zw_992 : (Jvm.Cond.instanceMethod ({ cls := "NumberDress$FractionDresser", name := "dress", desc := "(LNumberDress$Code;LNumberDress$Section;LNumberDress$Value;ZLNumberDress$Look;)V" } : Jvm.MethodName)) ∈ zT := zw_tb (zq_tables_1_4 _ (List.mem_of_getElem? (i := 163) rfl)) rfl
theorem zw_993 : (Jvm.Cond.selects "NumberDress$FractionDresser" ({ cls := "NumberDress$FractionDresser", name := "dress", desc := "(LNumberDress$Code;LNumberDress$Section;LNumberDress$Value;ZLNumberDress$Look;)V" } : Jvm.MethodName) ({ cls := "NumberDress$FractionDresser", name := "dress", desc := "(LNumberDress$Code;LNumberDress$Section;LNumberDress$Value;ZLNumberDress$Look;)V" } : Jvm.MethodName)) ∈ zT := zw_tb (zq_tables_1_4 _ (List.mem_of_getElem? (i := 164) rfl)) rfl
theorem zw_994 : (Jvm.Cond.code ({ cls := "NumberDress$FractionDresser", name := "dress", desc := "(LNumberDress$Code;LNumberDress$Section;LNumberDress$Value;ZLNumberDress$Look;)V" } : Jvm.MethodName) prog_6_method_2_code (6 : Nat) (Option.none : Option Jvm.ClassFile.FieldType)) ∈ zT := zw_tb (zq_tables_1_4 _ (List.mem_of_getElem? (i := 165) rfl)) rfl
theorem zw_995 : (Jvm.Cond.methodLink "NumberDress$FractionDresser" (25 : Nat) ({ cls := "NumberDress$Split", name := "take", desc := "(LNumberDress$Value;)V" } : Jvm.MethodName)) ∈ zT := zw_tb (zq_tables_1_4 _ (List.mem_of_getElem? (i := 166) rfl)) rfl
theorem zw_996 : (Jvm.Cond.instanceMethod ({ cls := "NumberDress$Split", name := "take", desc := "(LNumberDress$Value;)V" } : Jvm.MethodName)) ∈ zT := zw_tb (zq_tables_1_4 _ (List.mem_of_getElem? (i := 167) rfl)) rfl
theorem zw_997 : (Jvm.Cond.selects "NumberDress$Split" ({ cls := "NumberDress$Split", name := "take", desc := "(LNumberDress$Value;)V" } : Jvm.MethodName) ({ cls := "NumberDress$Split", name := "take", desc := "(LNumberDress$Value;)V" } : Jvm.MethodName)) ∈ zT := zw_tb (zq_tables_1_4 _ (List.mem_of_getElem? (i := 168) rfl)) rfl
theorem zw_998 : (Jvm.Cond.code ({ cls := "NumberDress$Split", name := "take", desc := "(LNumberDress$Value;)V" } : Jvm.MethodName) prog_11_method_2_code (8 : Nat) (Option.none : Option Jvm.ClassFile.FieldType)) ∈ zT := zw_tb (zq_tables_1_4 _ (List.mem_of_getElem? (i := 169) rfl)) rfl
theorem zw_999 : (Jvm.Cond.methodLink "NumberDress$Split" (26 : Nat) ({ cls := "NumberDress$Digits", name := "take", desc := "(JII)V" } : Jvm.MethodName)) ∈ zT := zw_tb (zq_tables_1_4 _ (List.mem_of_getElem? (i := 170) rfl)) rfl
theorem zw_1002 : (Jvm.Cond.methodLink "NumberDress$FractionDresser" (38 : Nat) ({ cls := "NumberDress$Digits", name := "wholes", desc := "()I" } : Jvm.MethodName)) ∈ zT := zw_tb (zq_tables_1_4 _ (List.mem_of_getElem? (i := 173) rfl)) rfl
theorem zw_1003 : (Jvm.Cond.methodLink "NumberDress$FractionDresser" (41 : Nat) ({ cls := "NumberDress$Look", name := "put", desc := "(I)V" } : Jvm.MethodName)) ∈ zT := zw_tb (zq_tables_1_4 _ (List.mem_of_getElem? (i := 174) rfl)) rfl
theorem zw_1004 : (Jvm.Cond.methodLink "NumberDress$FractionDresser" (47 : Nat) ({ cls := "NumberDress$FractionDresser", name := "findNearest", desc := "(LNumberDress$Section;)V" } : Jvm.MethodName)) ∈ zT := zw_tb (zq_tables_1_4 _ (List.mem_of_getElem? (i := 175) rfl)) rfl
theorem zw_1006 : (Jvm.Cond.instanceMethod ({ cls := "NumberDress$FractionDresser", name := "findNearest", desc := "(LNumberDress$Section;)V" } : Jvm.MethodName)) ∈ zT := zw_tb (zq_tables_1_4 _ (List.mem_of_getElem? (i := 177) rfl)) rfl
theorem zw_1007 : (Jvm.Cond.code ({ cls := "NumberDress$FractionDresser", name := "findNearest", desc := "(LNumberDress$Section;)V" } : Jvm.MethodName) prog_6_method_3_code (6 : Nat) (Option.none : Option Jvm.ClassFile.FieldType)) ∈ zT := zw_tb (zq_tables_1_4 _ (List.mem_of_getElem? (i := 178) rfl)) rfl
theorem zw_1008 : (Jvm.Cond.methodLink "NumberDress$FractionDresser" (79 : Nat) ({ cls := "NumberDress$FractionDresser", name := "tryUnder", desc := "(J)V" } : Jvm.MethodName)) ∈ zT := zw_tb (zq_tables_1_4 _ (List.mem_of_getElem? (i := 179) rfl)) rfl
theorem zw_1010 : (Jvm.Cond.instanceMethod ({ cls := "NumberDress$FractionDresser", name := "tryUnder", desc := "(J)V" } : Jvm.MethodName)) ∈ zT := zw_tb (zq_tables_1_4 _ (List.mem_of_getElem? (i := 181) rfl)) rfl
theorem zw_1011 : (Jvm.Cond.code ({ cls := "NumberDress$FractionDresser", name := "tryUnder", desc := "(J)V" } : Jvm.MethodName) prog_6_method_4_code (15 : Nat) (Option.none : Option Jvm.ClassFile.FieldType)) ∈ zT := zw_tb (zq_tables_1_4 _ (List.mem_of_getElem? (i := 182) rfl)) rfl
theorem zw_1012 : (Jvm.Cond.constantLong "NumberDress$FractionDresser" (95 : Nat) (1000000000000000 : Int64)) ∈ zT := zw_tb (zq_tables_1_4 _ (List.mem_of_getElem? (i := 183) rfl)) rfl
theorem zw_1014 : (Jvm.Cond.constantLong "NumberDress$FractionDresser" (90 : Nat) (999 : Int64)) ∈ zT := zw_tb (zq_tables_1_4 _ (List.mem_of_getElem? (i := 185) rfl)) rfl
theorem zw_1015 : (Jvm.Cond.methodLink "NumberDress$FractionDresser" (58 : Nat) ({ cls := "NumberDress$Digits", name := "small", desc := "()J" } : Jvm.MethodName)) ∈ zT := zw_tb (zq_tables_1_4 _ (List.mem_of_getElem? (i := 186) rfl)) rfl
theorem zw_1016 : (Jvm.Cond.instanceMethod ({ cls := "NumberDress$Digits", name := "small", desc := "()J" } : Jvm.MethodName)) ∈ zT := zw_tb (zq_tables_1_4 _ (List.mem_of_getElem? (i := 187) rfl)) rfl
theorem zw_1017 : (Jvm.Cond.selects "NumberDress$Digits" ({ cls := "NumberDress$Digits", name := "small", desc := "()J" } : Jvm.MethodName) ({ cls := "NumberDress$Digits", name := "small", desc := "()J" } : Jvm.MethodName)) ∈ zT := zw_tb (zq_tables_1_4 _ (List.mem_of_getElem? (i := 188) rfl)) rfl
theorem zw_1018 : (Jvm.Cond.code ({ cls := "NumberDress$Digits", name := "small", desc := "()J" } : Jvm.MethodName) prog_4_method_8_code (1 : Nat) (Option.some Jvm.ClassFile.FieldType.long)) ∈ zT := zw_tb (zq_tables_1_4 _ (List.mem_of_getElem? (i := 189) rfl)) rfl
theorem zw_1019 : (Jvm.Cond.methodLink "NumberDress$FractionDresser" (62 : Nat) ({ cls := "NumberDress$Digits", name := "take", desc := "(JII)V" } : Jvm.MethodName)) ∈ zT := zw_tb (zq_tables_1_4 _ (List.mem_of_getElem? (i := 190) rfl)) rfl
theorem zw_1020 : (Jvm.Cond.methodLink "NumberDress$FractionDresser" (65 : Nat) ({ cls := "NumberDress$Digits", name := "isZero", desc := "()Z" } : Jvm.MethodName)) ∈ zT := zw_tb (zq_tables_1_4 _ (List.mem_of_getElem? (i := 191) rfl)) rfl
theorem zw_1021 : (Jvm.Cond.methodLink "NumberDress$FractionDresser" (69 : Nat) ({ cls := "NumberDress$FractionDresser", name := "putItems", desc := "(LNumberDress$Code;LNumberDress$Section;LNumberDress$Look;)V" } : Jvm.MethodName)) ∈ zT := zw_tb (zq_tables_1_4 _ (List.mem_of_getElem? (i := 192) rfl)) rfl
theorem zw_1023 : (Jvm.Cond.instanceMethod ({ cls := "NumberDress$FractionDresser", name := "putItems", desc := "(LNumberDress$Code;LNumberDress$Section;LNumberDress$Look;)V" } : Jvm.MethodName)) ∈ zT := zw_tb (zq_tables_1_4 _ (List.mem_of_getElem? (i := 194) rfl)) rfl
theorem zw_1024 : (Jvm.Cond.code ({ cls := "NumberDress$FractionDresser", name := "putItems", desc := "(LNumberDress$Code;LNumberDress$Section;LNumberDress$Look;)V" } : Jvm.MethodName) prog_6_method_5_code (10 : Nat) (Option.none : Option Jvm.ClassFile.FieldType)) ∈ zT := zw_tb (zq_tables_1_4 _ (List.mem_of_getElem? (i := 195) rfl)) rfl
theorem zw_1025 : (Jvm.Cond.methodLink "NumberDress$FractionDresser" (106 : Nat) ({ cls := "NumberDress$Code", name := "kind", desc := "(I)I" } : Jvm.MethodName)) ∈ zT := zw_tb (zq_tables_1_4 _ (List.mem_of_getElem? (i := 196) rfl)) rfl
theorem zw_1026 : (Jvm.Cond.methodLink "NumberDress$FractionDresser" (112 : Nat) ({ cls := "NumberDress$Code", name := "mark", desc := "(I)I" } : Jvm.MethodName)) ∈ zT := zw_tb (zq_tables_1_4 _ (List.mem_of_getElem? (i := 197) rfl)) rfl
theorem zw_1027 : (Jvm.Cond.methodLink "NumberDress$FractionDresser" (115 : Nat) ({ cls := "NumberDress$Look", name := "putPlace", desc := "(LNumberDress$Digits;IIIZ)V" } : Jvm.MethodName)) ∈ zT := zw_tb (zq_tables_1_4 _ (List.mem_of_getElem? (i := 198) rfl)) rfl
theorem zw_1028 : (Jvm.Cond.methodLink "NumberDress$FractionDresser" (119 : Nat) ({ cls := "NumberDress$FractionDresser", name := "isOfFraction", desc := "(I)Z" } : Jvm.MethodName)) ∈ zT := zw_tb (zq_tables_1_4 _ (List.mem_of_getElem? (i := 199) rfl)) rfl
theorem zw_1029 : (Jvm.Cond.static ({ cls := "NumberDress$FractionDresser", name := "isOfFraction", desc := "(I)Z" } : Jvm.MethodName)) ∈ zT := zw_tb (zq_tables_1_4 _ (List.mem_of_getElem? (i := 200) rfl)) rfl
theorem zw_1030 : (Jvm.Cond.code ({ cls := "NumberDress$FractionDresser", name := "isOfFraction", desc := "(I)Z" } : Jvm.MethodName) prog_6_method_6_code (1 : Nat) (Option.some Jvm.ClassFile.FieldType.boolean)) ∈ zT := zw_tb (zq_tables_1_4 _ (List.mem_of_getElem? (i := 201) rfl)) rfl
theorem zw_1031 : (Jvm.Cond.methodLink "NumberDress$FractionDresser" (123 : Nat) ({ cls := "NumberDress$FractionDresser", name := "putUnder", desc := "(LNumberDress$Code;LNumberDress$Section;ILNumberDress$Look;)V" } : Jvm.MethodName)) ∈ zT := zw_tb (zq_tables_1_4 _ (List.mem_of_getElem? (i := 202) rfl)) rfl
theorem zw_1033 : (Jvm.Cond.instanceMethod ({ cls := "NumberDress$FractionDresser", name := "putUnder", desc := "(LNumberDress$Code;LNumberDress$Section;ILNumberDress$Look;)V" } : Jvm.MethodName)) ∈ zT := zw_tb (zq_tables_1_4 _ (List.mem_of_getElem? (i := 204) rfl)) rfl
theorem zw_1034 : (Jvm.Cond.code ({ cls := "NumberDress$FractionDresser", name := "putUnder", desc := "(LNumberDress$Code;LNumberDress$Section;ILNumberDress$Look;)V" } : Jvm.MethodName) prog_6_method_7_code (6 : Nat) (Option.none : Option Jvm.ClassFile.FieldType)) ∈ zT := zw_tb (zq_tables_1_4 _ (List.mem_of_getElem? (i := 205) rfl)) rfl
theorem zw_1036 : (Jvm.Cond.methodLink "NumberDress$FractionDresser" (131 : Nat) ({ cls := "NumberDress$FractionDresser", name := "putLacking", desc := "(LNumberDress$Code;IIILNumberDress$Look;)V" } : Jvm.MethodName)) ∈ zT := zw_tb (zq_tables_1_4 _ (List.mem_of_getElem? (i := 207) rfl)) rfl
theorem zw_1038 : (Jvm.Cond.instanceMethod ({ cls := "NumberDress$FractionDresser", name := "putLacking", desc := "(LNumberDress$Code;IIILNumberDress$Look;)V" } : Jvm.MethodName)) ∈ zT := zw_tb (zq_tables_1_4 _ (List.mem_of_getElem? (i := 209) rfl)) rfl
theorem zw_1039 : (Jvm.Cond.code ({ cls := "NumberDress$FractionDresser", name := "putLacking", desc := "(LNumberDress$Code;IIILNumberDress$Look;)V" } : Jvm.MethodName) prog_6_method_8_code (7 : Nat) (Option.none : Option Jvm.ClassFile.FieldType)) ∈ zT := zw_tb (zq_tables_1_4 _ (List.mem_of_getElem? (i := 210) rfl)) rfl
theorem zw_1040 : (Jvm.Cond.methodLink "NumberDress$FractionDresser" (135 : Nat) ({ cls := "NumberDress$Look", name := "putNumber", desc := "(JI)V" } : Jvm.MethodName)) ∈ zT := zw_tb (zq_tables_1_4 _ (List.mem_of_getElem? (i := 211) rfl)) rfl
theorem zw_1041 : (Jvm.Cond.methodLink "NumberDress$Dresser" (82 : Nat) ({ cls := "NumberDress$DateDresser", name := "dress", desc := "(LNumberDress$Code;LNumberDress$Section;LNumberDress$Value;ZLNumberDress$Look;)V" } : Jvm.MethodName)) ∈ zT := zw_tb (zq_tables_1_4 _ (List.mem_of_getElem? (i := 212) rfl)) rfl
theorem zw_1042 : (Jvm.Cond.instanceMethod ({ cls := "NumberDress$DateDresser", name := "dress", desc := "(LNumberDress$Code;LNumberDress$Section;LNumberDress$Value;ZLNumberDress$Look;)V" } : Jvm.MethodName)) ∈ zT := zw_tb (zq_tables_1_4 _ (List.mem_of_getElem? (i := 213) rfl)) rfl
theorem zw_1043 : (Jvm.Cond.selects "NumberDress$DateDresser" ({ cls := "NumberDress$DateDresser", name := "dress", desc := "(LNumberDress$Code;LNumberDress$Section;LNumberDress$Value;ZLNumberDress$Look;)V" } : Jvm.MethodName) ({ cls := "NumberDress$DateDresser", name := "dress", desc := "(LNumberDress$Code;LNumberDress$Section;LNumberDress$Value;ZLNumberDress$Look;)V" } : Jvm.MethodName)) ∈ zT := zw_tb (zq_tables_1_4 _ (List.mem_of_getElem? (i := 214) rfl)) rfl
theorem zw_1044 : (Jvm.Cond.code ({ cls := "NumberDress$DateDresser", name := "dress", desc := "(LNumberDress$Code;LNumberDress$Section;LNumberDress$Value;ZLNumberDress$Look;)V" } : Jvm.MethodName) prog_3_method_2_code (8 : Nat) (Option.none : Option Jvm.ClassFile.FieldType)) ∈ zT := zw_tb (zq_tables_1_4 _ (List.mem_of_getElem? (i := 215) rfl)) rfl
theorem zw_1045 : (Jvm.Cond.methodLink "NumberDress$DateDresser" (18 : Nat) ({ cls := "NumberDress$Split", name := "take", desc := "(LNumberDress$Value;)V" } : Jvm.MethodName)) ∈ zT := zw_tb (zq_tables_1_4 _ (List.mem_of_getElem? (i := 216) rfl)) rfl
theorem zw_1046 : (Jvm.Cond.methodLink "NumberDress$DateDresser" (26 : Nat) ({ cls := "NumberDress$Digits", name := "wholes", desc := "()I" } : Jvm.MethodName)) ∈ zT := zw_tb (zq_tables_1_4 _ (List.mem_of_getElem? (i := 217) rfl)) rfl
theorem zw_1047 : (Jvm.Cond.methodLink "NumberDress$DateDresser" (32 : Nat) ({ cls := "NumberDress$Look", name := "put", desc := "(I)V" } : Jvm.MethodName)) ∈ zT := zw_tb (zq_tables_1_4 _ (List.mem_of_getElem? (i := 218) rfl)) rfl
theorem zw_1048 : (Jvm.Cond.methodLink "NumberDress$DateDresser" (44 : Nat) ({ cls := "NumberDress$DateDresser", name := "takeTime", desc := "(I)V" } : Jvm.MethodName)) ∈ zT := zw_tb (zq_tables_1_4 _ (List.mem_of_getElem? (i := 219) rfl)) rfl
theorem zw_1050 : (Jvm.Cond.instanceMethod ({ cls := "NumberDress$DateDresser", name := "takeTime", desc := "(I)V" } : Jvm.MethodName)) ∈ zT := zw_tb (zq_tables_1_4 _ (List.mem_of_getElem? (i := 221) rfl)) rfl
theorem zw_1051 : (Jvm.Cond.code ({ cls := "NumberDress$DateDresser", name := "takeTime", desc := "(I)V" } : Jvm.MethodName) prog_3_method_3_code (8 : Nat) (Option.none : Option Jvm.ClassFile.FieldType)) ∈ zT := zw_tb (zq_tables_1_4 _ (List.mem_of_getElem? (i := 222) rfl)) rfl
theorem zw_1053 : (Jvm.Cond.constantLong "NumberDress$DateDresser" (87 : Nat) (86400 : Int64)) ∈ zT := zw_tb (zq_tables_1_4 _ (List.mem_of_getElem? (i := 224) rfl)) rfl
theorem zw_1054 : (Jvm.Cond.methodLink "NumberDress$DateDresser" (89 : Nat) ({ cls := "NumberDress$DateDresser", name := "partsOfDay", desc := "(J)J" } : Jvm.MethodName)) ∈ zT := zw_tb (zq_tables_1_4 _ (List.mem_of_getElem? (i := 225) rfl)) rfl
theorem zw_1056 : (Jvm.Cond.instanceMethod ({ cls := "NumberDress$DateDresser", name := "partsOfDay", desc := "(J)J" } : Jvm.MethodName)) ∈ zT := zw_tb (zq_tables_1_4 _ (List.mem_of_getElem? (i := 227) rfl)) rfl
theorem zw_1057 : (Jvm.Cond.code ({ cls := "NumberDress$DateDresser", name := "partsOfDay", desc := "(J)J" } : Jvm.MethodName) prog_3_method_4_code (9 : Nat) (Option.some Jvm.ClassFile.FieldType.long)) ∈ zT := zw_tb (zq_tables_1_4 _ (List.mem_of_getElem? (i := 228) rfl)) rfl
theorem zw_1058 : (Jvm.Cond.constantLong "NumberDress$DateDresser" (106 : Nat) (100000000 : Int64)) ∈ zT := zw_tb (zq_tables_1_4 _ (List.mem_of_getElem? (i := 229) rfl)) rfl
theorem zw_1059 : (Jvm.Cond.constantLong "NumberDress$DateDresser" (108 : Nat) (5000000 : Int64)) ∈ zT := zw_tb (zq_tables_1_4 _ (List.mem_of_getElem? (i := 230) rfl)) rfl
theorem zw_1060 : (Jvm.Cond.constantLong "NumberDress$DateDresser" (110 : Nat) (10000000 : Int64)) ∈ zT := zw_tb (zq_tables_1_4 _ (List.mem_of_getElem? (i := 231) rfl)) rfl
theorem zw_1061 : (Jvm.Cond.methodLink "NumberDress$DateDresser" (93 : Nat) ({ cls := "NumberDress$Digits", name := "small", desc := "()J" } : Jvm.MethodName)) ∈ zT := zw_tb (zq_tables_1_4 _ (List.mem_of_getElem? (i := 232) rfl)) rfl
theorem zw_1062 : (Jvm.Cond.constantLong "NumberDress$DateDresser" (51 : Nat) (2958466 : Int64)) ∈ zT := zw_tb (zq_tables_1_4 _ (List.mem_of_getElem? (i := 233) rfl)) rfl
theorem zw_1063 : (Jvm.Cond.methodLink "NumberDress$DateDresser" (53 : Nat) ({ cls := "NumberDress$DateDresser", name := "takeDay", desc := "(I)V" } : Jvm.MethodName)) ∈ zT := zw_tb (zq_tables_1_4 _ (List.mem_of_getElem? (i := 234) rfl)) rfl
theorem zw_1065 : (Jvm.Cond.instanceMethod ({ cls := "NumberDress$DateDresser", name := "takeDay", desc := "(I)V" } : Jvm.MethodName)) ∈ zT := zw_tb (zq_tables_1_4 _ (List.mem_of_getElem? (i := 236) rfl)) rfl
theorem zw_1066 : (Jvm.Cond.code ({ cls := "NumberDress$DateDresser", name := "takeDay", desc := "(I)V" } : Jvm.MethodName) prog_3_method_5_code (2 : Nat) (Option.none : Option Jvm.ClassFile.FieldType)) ∈ zT := zw_tb (zq_tables_1_4 _ (List.mem_of_getElem? (i := 237) rfl)) rfl
theorem zw_1067 : (Jvm.Cond.constant "NumberDress$DateDresser" (112 : Nat) (109572 : Int32)) ∈ zT := zw_tb (zq_tables_1_4 _ (List.mem_of_getElem? (i := 238) rfl)) rfl
theorem zw_1068 : (Jvm.Cond.methodLink "NumberDress$DateDresser" (113 : Nat) ({ cls := "NumberDress$DateDresser", name := "takeCalendarDay", desc := "(I)V" } : Jvm.MethodName)) ∈ zT := zw_tb (zq_tables_1_4 _ (List.mem_of_getElem? (i := 239) rfl)) rfl
theorem zw_1070 : (Jvm.Cond.instanceMethod ({ cls := "NumberDress$DateDresser", name := "takeCalendarDay", desc := "(I)V" } : Jvm.MethodName)) ∈ zT := zw_tb (zq_tables_1_5 _ (List.mem_of_getElem? (i := 1) rfl)) rfl
theorem zw_1071 : (Jvm.Cond.code ({ cls := "NumberDress$DateDresser", name := "takeCalendarDay", desc := "(I)V" } : Jvm.MethodName) prog_3_method_6_code (7 : Nat) (Option.none : Option Jvm.ClassFile.FieldType)) ∈ zT := zw_tb (zq_tables_1_5 _ (List.mem_of_getElem? (i := 2) rfl)) rfl
theorem zw_1072 : (Jvm.Cond.constant "NumberDress$DateDresser" (125 : Nat) (146097 : Int32)) ∈ zT := zw_tb (zq_tables_1_5 _ (List.mem_of_getElem? (i := 3) rfl)) rfl
theorem zw_1073 : (Jvm.Cond.constant "NumberDress$DateDresser" (126 : Nat) (36524 : Int32)) ∈ zT := zw_tb (zq_tables_1_5 _ (List.mem_of_getElem? (i := 4) rfl)) rfl
theorem zw_1074 : (Jvm.Cond.constant "NumberDress$DateDresser" (127 : Nat) (146096 : Int32)) ∈ zT := zw_tb (zq_tables_1_5 _ (List.mem_of_getElem? (i := 5) rfl)) rfl
theorem zw_1075 : (Jvm.Cond.methodLink "NumberDress$DateDresser" (62 : Nat) ({ cls := "NumberDress$Code", name := "kind", desc := "(I)I" } : Jvm.MethodName)) ∈ zT := zw_tb (zq_tables_1_5 _ (List.mem_of_getElem? (i := 6) rfl)) rfl
theorem zw_1076 : (Jvm.Cond.methodLink "NumberDress$DateDresser" (68 : Nat) ({ cls := "NumberDress$Code", name := "mark", desc := "(I)I" } : Jvm.MethodName)) ∈ zT := zw_tb (zq_tables_1_5 _ (List.mem_of_getElem? (i := 7) rfl)) rfl
theorem zw_1077 : (Jvm.Cond.methodLink "NumberDress$DateDresser" (75 : Nat) ({ cls := "NumberDress$DateDresser", name := "putTime", desc := "(IIZLNumberDress$Look;)V" } : Jvm.MethodName)) ∈ zT := zw_tb (zq_tables_1_5 _ (List.mem_of_getElem? (i := 8) rfl)) rfl
theorem zw_1079 : (Jvm.Cond.instanceMethod ({ cls := "NumberDress$DateDresser", name := "putTime", desc := "(IIZLNumberDress$Look;)V" } : Jvm.MethodName)) ∈ zT := zw_tb (zq_tables_1_5 _ (List.mem_of_getElem? (i := 10) rfl)) rfl
theorem zw_1080 : (Jvm.Cond.code ({ cls := "NumberDress$DateDresser", name := "putTime", desc := "(IIZLNumberDress$Look;)V" } : Jvm.MethodName) prog_3_method_9_code (7 : Nat) (Option.none : Option Jvm.ClassFile.FieldType)) ∈ zT := zw_tb (zq_tables_1_5 _ (List.mem_of_getElem? (i := 11) rfl)) rfl
theorem zw_1081 : (Jvm.Cond.constantLong "NumberDress$DateDresser" (156 : Nat) (3600 : Int64)) ∈ zT := zw_tb (zq_tables_1_5 _ (List.mem_of_getElem? (i := 12) rfl)) rfl
theorem zw_1082 : (Jvm.Cond.constantLong "NumberDress$DateDresser" (158 : Nat) (11 : Int64)) ∈ zT := zw_tb (zq_tables_1_5 _ (List.mem_of_getElem? (i := 13) rfl)) rfl
theorem zw_1083 : (Jvm.Cond.constantLong "NumberDress$DateDresser" (160 : Nat) (12 : Int64)) ∈ zT := zw_tb (zq_tables_1_5 _ (List.mem_of_getElem? (i := 14) rfl)) rfl
theorem zw_1084 : (Jvm.Cond.methodLink "NumberDress$DateDresser" (128 : Nat) ({ cls := "NumberDress$Look", name := "putNumber", desc := "(JI)V" } : Jvm.MethodName)) ∈ zT := zw_tb (zq_tables_1_5 _ (List.mem_of_getElem? (i := 15) rfl)) rfl
theorem zw_1085 : (Jvm.Cond.constantLong "NumberDress$DateDresser" (162 : Nat) (60 : Int64)) ∈ zT := zw_tb (zq_tables_1_5 _ (List.mem_of_getElem? (i := 16) rfl)) rfl
theorem zw_1086 : (Jvm.Cond.constantLong "NumberDress$DateDresser" (164 : Nat) (24 : Int64)) ∈ zT := zw_tb (zq_tables_1_5 _ (List.mem_of_getElem? (i := 17) rfl)) rfl
theorem zw_1087 : (Jvm.Cond.constantLong "NumberDress$DateDresser" (166 : Nat) (1440 : Int64)) ∈ zT := zw_tb (zq_tables_1_5 _ (List.mem_of_getElem? (i := 18) rfl)) rfl
theorem zw_1088 : (Jvm.Cond.methodLink "NumberDress$DateDresser" (79 : Nat) ({ cls := "NumberDress$DateDresser", name := "putDay", desc := "(IILNumberDress$Look;)V" } : Jvm.MethodName)) ∈ zT := zw_tb (zq_tables_1_5 _ (List.mem_of_getElem? (i := 19) rfl)) rfl
theorem zw_1090 : (Jvm.Cond.instanceMethod ({ cls := "NumberDress$DateDresser", name := "putDay", desc := "(IILNumberDress$Look;)V" } : Jvm.MethodName)) ∈ zT := zw_tb (zq_tables_1_5 _ (List.mem_of_getElem? (i := 21) rfl)) rfl
theorem zw_1091 : (Jvm.Cond.code ({ cls := "NumberDress$DateDresser", name := "putDay", desc := "(IILNumberDress$Look;)V" } : Jvm.MethodName) prog_3_method_7_code (5 : Nat) (Option.none : Option Jvm.ClassFile.FieldType)) ∈ zT := zw_tb (zq_tables_1_5 _ (List.mem_of_getElem? (i := 22) rfl)) rfl
theorem zw_1092 : (Jvm.Cond.methodLink "NumberDress$DateDresser" (132 : Nat) ({ cls := "NumberDress$DateDresser", name := "monthName", desc := "(I)Ljava/lang/String;" } : Jvm.MethodName)) ∈ zT := zw_tb (zq_tables_1_5 _ (List.mem_of_getElem? (i := 23) rfl)) rfl
theorem zw_1093 : (Jvm.Cond.static ({ cls := "NumberDress$DateDresser", name := "monthName", desc := "(I)Ljava/lang/String;" } : Jvm.MethodName)) ∈ zT := zw_tb (zq_tables_1_5 _ (List.mem_of_getElem? (i := 24) rfl)) rfl
theorem zw_1094 : (Jvm.Cond.code ({ cls := "NumberDress$DateDresser", name := "monthName", desc := "(I)Ljava/lang/String;" } : Jvm.MethodName) prog_3_method_10_code (1 : Nat) (Option.some (Jvm.ClassFile.FieldType.object "java/lang/String"))) ∈ zT := zw_tb (zq_tables_1_5 _ (List.mem_of_getElem? (i := 25) rfl)) rfl
theorem zw_1107 : (Jvm.Cond.constantLong "NumberDress$DateDresser" (136 : Nat) (6 : Int64)) ∈ zT := zw_tb (zq_tables_1_5 _ (List.mem_of_getElem? (i := 38) rfl)) rfl
theorem zw_1108 : (Jvm.Cond.constantLong "NumberDress$DateDresser" (138 : Nat) (7 : Int64)) ∈ zT := zw_tb (zq_tables_1_5 _ (List.mem_of_getElem? (i := 39) rfl)) rfl
theorem zw_1109 : (Jvm.Cond.methodLink "NumberDress$DateDresser" (140 : Nat) ({ cls := "NumberDress$DateDresser", name := "weekdayName", desc := "(I)Ljava/lang/String;" } : Jvm.MethodName)) ∈ zT := zw_tb (zq_tables_1_5 _ (List.mem_of_getElem? (i := 40) rfl)) rfl
theorem zw_1110 : (Jvm.Cond.static ({ cls := "NumberDress$DateDresser", name := "weekdayName", desc := "(I)Ljava/lang/String;" } : Jvm.MethodName)) ∈ zT := zw_tb (zq_tables_1_5 _ (List.mem_of_getElem? (i := 41) rfl)) rfl
theorem zw_1111 : (Jvm.Cond.code ({ cls := "NumberDress$DateDresser", name := "weekdayName", desc := "(I)Ljava/lang/String;" } : Jvm.MethodName) prog_3_method_11_code (1 : Nat) (Option.some (Jvm.ClassFile.FieldType.object "java/lang/String"))) ∈ zT := zw_tb (zq_tables_1_5 _ (List.mem_of_getElem? (i := 42) rfl)) rfl
theorem zw_1119 : (Jvm.Cond.methodLink "NumberDress$DateDresser" (143 : Nat) ({ cls := "NumberDress$DateDresser", name := "putName", desc := "(Ljava/lang/String;ILNumberDress$Look;)V" } : Jvm.MethodName)) ∈ zT := zw_tb (zq_tables_1_5 _ (List.mem_of_getElem? (i := 50) rfl)) rfl
theorem zw_1121 : (Jvm.Cond.instanceMethod ({ cls := "NumberDress$DateDresser", name := "putName", desc := "(Ljava/lang/String;ILNumberDress$Look;)V" } : Jvm.MethodName)) ∈ zT := zw_tb (zq_tables_1_5 _ (List.mem_of_getElem? (i := 52) rfl)) rfl
theorem zw_1122 : (Jvm.Cond.code ({ cls := "NumberDress$DateDresser", name := "putName", desc := "(Ljava/lang/String;ILNumberDress$Look;)V" } : Jvm.MethodName) prog_3_method_8_code (6 : Nat) (Option.none : Option Jvm.ClassFile.FieldType)) ∈ zT := zw_tb (zq_tables_1_5 _ (List.mem_of_getElem? (i := 53) rfl)) rfl
theorem zw_1123 : (Jvm.Cond.methodLink "NumberDress$DateDresser" (147 : Nat) ({ cls := "java/lang/String", name := "length", desc := "()I" } : Jvm.MethodName)) ∈ zT := zw_tb (zq_tables_1_5 _ (List.mem_of_getElem? (i := 54) rfl)) rfl
theorem zw_1124 : (Jvm.Cond.methodLink "NumberDress$DateDresser" (152 : Nat) ({ cls := "java/lang/String", name := "charAt", desc := "(I)C" } : Jvm.MethodName)) ∈ zT := zw_tb (zq_tables_1_5 _ (List.mem_of_getElem? (i := 55) rfl)) rfl
theorem zw_1125 : (Jvm.Cond.methodLink "NumberDress$Dresser" (83 : Nat) ({ cls := "NumberDress$Dresser", name := "dressWords", desc := "(LNumberDress$Code;LNumberDress$Section;LNumberDress$Value;LNumberDress$Look;)V" } : Jvm.MethodName)) ∈ zT := zw_tb (zq_tables_1_5 _ (List.mem_of_getElem? (i := 56) rfl)) rfl
theorem zw_1127 : (Jvm.Cond.instanceMethod ({ cls := "NumberDress$Dresser", name := "dressWords", desc := "(LNumberDress$Code;LNumberDress$Section;LNumberDress$Value;LNumberDress$Look;)V" } : Jvm.MethodName)) ∈ zT := zw_tb (zq_tables_1_5 _ (List.mem_of_getElem? (i := 58) rfl)) rfl
theorem zw_1128 : (Jvm.Cond.code ({ cls := "NumberDress$Dresser", name := "dressWords", desc := "(LNumberDress$Code;LNumberDress$Section;LNumberDress$Value;LNumberDress$Look;)V" } : Jvm.MethodName) prog_5_method_3_code (7 : Nat) (Option.none : Option Jvm.ClassFile.FieldType)) ∈ zT := zw_tb (zq_tables_1_5 _ (List.mem_of_getElem? (i := 59) rfl)) rfl
theorem zw_1129 : (Jvm.Cond.methodLink "NumberDress$Dresser" (93 : Nat) ({ cls := "NumberDress$Code", name := "kind", desc := "(I)I" } : Jvm.MethodName)) ∈ zT := zw_tb (zq_tables_1_5 _ (List.mem_of_getElem? (i := 60) rfl)) rfl
theorem zw_1130 : (Jvm.Cond.methodLink "NumberDress$Dresser" (96 : Nat) ({ cls := "NumberDress$Code", name := "mark", desc := "(I)I" } : Jvm.MethodName)) ∈ zT := zw_tb (zq_tables_1_5 _ (List.mem_of_getElem? (i := 61) rfl)) rfl
theorem zw_1131 : (Jvm.Cond.methodLink "NumberDressLaw" (55 : Nat) ({ cls := "NumberDress", name := "at", desc := "(I)I" } : Jvm.MethodName)) ∈ zT := zw_tb (zq_tables_1_5 _ (List.mem_of_getElem? (i := 62) rfl)) rfl
theorem zw_1132 : (Jvm.Cond.instanceMethod ({ cls := "NumberDress", name := "at", desc := "(I)I" } : Jvm.MethodName)) ∈ zT := zw_tb (zq_tables_1_5 _ (List.mem_of_getElem? (i := 63) rfl)) rfl
theorem zw_1133 : (Jvm.Cond.selects "NumberDress" ({ cls := "NumberDress", name := "at", desc := "(I)I" } : Jvm.MethodName) ({ cls := "NumberDress", name := "at", desc := "(I)I" } : Jvm.MethodName)) ∈ zT := zw_tb (zq_tables_1_5 _ (List.mem_of_getElem? (i := 64) rfl)) rfl
theorem zw_1134 : (Jvm.Cond.code ({ cls := "NumberDress", name := "at", desc := "(I)I" } : Jvm.MethodName) prog_1_method_8_code (2 : Nat) (Option.some Jvm.ClassFile.FieldType.int)) ∈ zT := zw_tb (zq_tables_1_5 _ (List.mem_of_getElem? (i := 65) rfl)) rfl
theorem zw_1135 : (Jvm.Cond.methodLink "NumberDress" (97 : Nat) ({ cls := "NumberDress$Look", name := "sign", desc := "(I)I" } : Jvm.MethodName)) ∈ zT := zw_tb (zq_tables_1_5 _ (List.mem_of_getElem? (i := 66) rfl)) rfl
theorem zw_1136 : (Jvm.Cond.instanceMethod ({ cls := "NumberDress$Look", name := "sign", desc := "(I)I" } : Jvm.MethodName)) ∈ zT := zw_tb (zq_tables_1_5 _ (List.mem_of_getElem? (i := 67) rfl)) rfl
theorem zw_1137 : (Jvm.Cond.selects "NumberDress$Look" ({ cls := "NumberDress$Look", name := "sign", desc := "(I)I" } : Jvm.MethodName) ({ cls := "NumberDress$Look", name := "sign", desc := "(I)I" } : Jvm.MethodName)) ∈ zT := zw_tb (zq_tables_1_5 _ (List.mem_of_getElem? (i := 68) rfl)) rfl
theorem zw_1138 : (Jvm.Cond.code ({ cls := "NumberDress$Look", name := "sign", desc := "(I)I" } : Jvm.MethodName) prog_7_method_3_code (2 : Nat) (Option.some Jvm.ClassFile.FieldType.int)) ∈ zT := zw_tb (zq_tables_1_5 _ (List.mem_of_getElem? (i := 69) rfl)) rfl
theorem zw_1139 : (Jvm.Cond.methodLink "NumberDressLaw" (28 : Nat) ({ cls := "NumberDressLaw", name := "type", desc := "(LNumberDress;I[J)I" } : Jvm.MethodName)) ∈ zT := zw_tb (zq_tables_1_5 _ (List.mem_of_getElem? (i := 70) rfl)) rfl
theorem zw_1140 : (Jvm.Cond.static ({ cls := "NumberDressLaw", name := "type", desc := "(LNumberDress;I[J)I" } : Jvm.MethodName)) ∈ zT := zw_tb (zq_tables_1_5 _ (List.mem_of_getElem? (i := 71) rfl)) rfl
theorem zw_1141 : (Jvm.Cond.codeWith ({ cls := "NumberDressLaw", name := "type", desc := "(LNumberDress;I[J)I" } : Jvm.MethodName) method_3_code (4 : Nat) (Option.some Jvm.ClassFile.FieldType.int) [((0 : Nat), (9 : Nat), (12 : Nat), (13 : Nat)), ((0 : Nat), (9 : Nat), (15 : Nat), (15 : Nat))]) ∈ zT := zw_tb (zq_tables_1_5 _ (List.mem_of_getElem? (i := 72) rfl)) rfl
theorem zw_1142 : (Jvm.Cond.classLink "NumberDressLaw" (13 : Nat) "java/lang/IllegalArgumentException") ∈ zT := zw_tb (zq_tables_1_5 _ (List.mem_of_getElem? (i := 73) rfl)) rfl
theorem zw_1143 : (Jvm.Cond.classLink "NumberDressLaw" (15 : Nat) "java/lang/IllegalStateException") ∈ zT := zw_tb (zq_tables_1_5 _ (List.mem_of_getElem? (i := 74) rfl)) rfl
theorem zw_1144 : (Jvm.Cond.methodLink "NumberDressLaw" (7 : Nat) ({ cls := "NumberDress", name := "type", desc := "(I)I" } : Jvm.MethodName)) ∈ zT := zw_tb (zq_tables_1_5 _ (List.mem_of_getElem? (i := 75) rfl)) rfl
theorem zw_1145 : (Jvm.Cond.instanceMethod ({ cls := "NumberDress", name := "type", desc := "(I)I" } : Jvm.MethodName)) ∈ zT := zw_tb (zq_tables_1_5 _ (List.mem_of_getElem? (i := 76) rfl)) rfl
theorem zw_1146 : (Jvm.Cond.selects "NumberDress" ({ cls := "NumberDress", name := "type", desc := "(I)I" } : Jvm.MethodName) ({ cls := "NumberDress", name := "type", desc := "(I)I" } : Jvm.MethodName)) ∈ zT := zw_tb (zq_tables_1_5 _ (List.mem_of_getElem? (i := 77) rfl)) rfl
theorem zw_1147 : (Jvm.Cond.code ({ cls := "NumberDress", name := "type", desc := "(I)I" } : Jvm.MethodName) prog_1_method_2_code (5 : Nat) (Option.some Jvm.ClassFile.FieldType.int)) ∈ zT := zw_tb (zq_tables_1_5 _ (List.mem_of_getElem? (i := 78) rfl)) rfl
theorem zw_1148 : (Jvm.Cond.classLink "NumberDress" (48 : Nat) "java/lang/IllegalArgumentException") ∈ zT := zw_tb (zq_tables_1_5 _ (List.mem_of_getElem? (i := 79) rfl)) rfl
theorem zw_1149 : (Jvm.Cond.instantiable "java/lang/IllegalArgumentException" (6 : Nat)) ∈ zT := zw_tb (zq_tables_1_5 _ (List.mem_of_getElem? (i := 80) rfl)) rfl
theorem zw_1214 : (Jvm.Cond.classLink "NumberDress" (59 : Nat) "java/lang/IllegalStateException") ∈ zT := zw_tb (zq_tables_1_5 _ (List.mem_of_getElem? (i := 145) rfl)) rfl
theorem zw_1215 : (Jvm.Cond.instantiable "java/lang/IllegalStateException" (6 : Nat)) ∈ zT := zw_tb (zq_tables_1_5 _ (List.mem_of_getElem? (i := 146) rfl)) rfl
theorem zw_1230 : (Jvm.Cond.methodLink "NumberDressLaw" (43 : Nat) ({ cls := "NumberDressLaw", name := "number", desc := "(LNumberDress;ZIII)I" } : Jvm.MethodName)) ∈ zT := zw_tb (zq_tables_1_5 _ (List.mem_of_getElem? (i := 161) rfl)) rfl
theorem zw_1231 : (Jvm.Cond.static ({ cls := "NumberDressLaw", name := "number", desc := "(LNumberDress;ZIII)I" } : Jvm.MethodName)) ∈ zT := zw_tb (zq_tables_1_5 _ (List.mem_of_getElem? (i := 162) rfl)) rfl
theorem zw_1232 : (Jvm.Cond.codeWith ({ cls := "NumberDressLaw", name := "number", desc := "(LNumberDress;ZIII)I" } : Jvm.MethodName) method_4_code (6 : Nat) (Option.some Jvm.ClassFile.FieldType.int) [((0 : Nat), (9 : Nat), (12 : Nat), (13 : Nat))]) ∈ zT := zw_tb (zq_tables_1_5 _ (List.mem_of_getElem? (i := 163) rfl)) rfl
theorem zw_1233 : (Jvm.Cond.methodLink "NumberDressLaw" (17 : Nat) ({ cls := "NumberDress", name := "number", desc := "(ZIII)V" } : Jvm.MethodName)) ∈ zT := zw_tb (zq_tables_1_5 _ (List.mem_of_getElem? (i := 164) rfl)) rfl
theorem zw_1234 : (Jvm.Cond.instanceMethod ({ cls := "NumberDress", name := "number", desc := "(ZIII)V" } : Jvm.MethodName)) ∈ zT := zw_tb (zq_tables_1_5 _ (List.mem_of_getElem? (i := 165) rfl)) rfl
theorem zw_1235 : (Jvm.Cond.selects "NumberDress" ({ cls := "NumberDress", name := "number", desc := "(ZIII)V" } : Jvm.MethodName) ({ cls := "NumberDress", name := "number", desc := "(ZIII)V" } : Jvm.MethodName)) ∈ zT := zw_tb (zq_tables_1_5 _ (List.mem_of_getElem? (i := 166) rfl)) rfl
theorem zw_1236 : (Jvm.Cond.code ({ cls := "NumberDress", name := "number", desc := "(ZIII)V" } : Jvm.MethodName) prog_1_method_5_code (5 : Nat) (Option.none : Option Jvm.ClassFile.FieldType)) ∈ zT := zw_tb (zq_tables_1_5 _ (List.mem_of_getElem? (i := 167) rfl)) rfl
theorem zw_1237 : (Jvm.Cond.constant "NumberDress" (76 : Nat) (99999999 : Int32)) ∈ zT := zw_tb (zq_tables_1_5 _ (List.mem_of_getElem? (i := 168) rfl)) rfl
theorem zw_1238 : (Jvm.Cond.constant "NumberDress" (77 : Nat) (999999999 : Int32)) ∈ zT := zw_tb (zq_tables_1_5 _ (List.mem_of_getElem? (i := 169) rfl)) rfl
theorem zw_1240 : (Jvm.Cond.constantLong "NumberDress" (80 : Nat) (1000000000 : Int64)) ∈ zT := zw_tb (zq_tables_1_5 _ (List.mem_of_getElem? (i := 171) rfl)) rfl
theorem zw_1241 : (Jvm.Cond.methodLink "NumberDress" (82 : Nat) ({ cls := "NumberDress$Value", name := "takeNumber", desc := "(ZJI)V" } : Jvm.MethodName)) ∈ zT := zw_tb (zq_tables_1_5 _ (List.mem_of_getElem? (i := 172) rfl)) rfl
theorem zw_1242 : (Jvm.Cond.instanceMethod ({ cls := "NumberDress$Value", name := "takeNumber", desc := "(ZJI)V" } : Jvm.MethodName)) ∈ zT := zw_tb (zq_tables_1_5 _ (List.mem_of_getElem? (i := 173) rfl)) rfl
theorem zw_1243 : (Jvm.Cond.selects "NumberDress$Value" ({ cls := "NumberDress$Value", name := "takeNumber", desc := "(ZJI)V" } : Jvm.MethodName) ({ cls := "NumberDress$Value", name := "takeNumber", desc := "(ZJI)V" } : Jvm.MethodName)) ∈ zT := zw_tb (zq_tables_1_5 _ (List.mem_of_getElem? (i := 174) rfl)) rfl
theorem zw_1244 : (Jvm.Cond.code ({ cls := "NumberDress$Value", name := "takeNumber", desc := "(ZJI)V" } : Jvm.MethodName) prog_12_method_2_code (5 : Nat) (Option.none : Option Jvm.ClassFile.FieldType)) ∈ zT := zw_tb (zq_tables_1_5 _ (List.mem_of_getElem? (i := 175) rfl)) rfl
theorem zw_1245 : (Jvm.Cond.methodLink "NumberDressLaw" (59 : Nat) ({ cls := "NumberDressLaw", name := "about", desc := "(LNumberDress;I[J)I" } : Jvm.MethodName)) ∈ zT := zw_tb (zq_tables_1_5 _ (List.mem_of_getElem? (i := 176) rfl)) rfl
theorem zw_1246 : (Jvm.Cond.static ({ cls := "NumberDressLaw", name := "about", desc := "(LNumberDress;I[J)I" } : Jvm.MethodName)) ∈ zT := zw_tb (zq_tables_1_5 _ (List.mem_of_getElem? (i := 177) rfl)) rfl
theorem zw_1247 : (Jvm.Cond.codeWith ({ cls := "NumberDressLaw", name := "about", desc := "(LNumberDress;I[J)I" } : Jvm.MethodName) method_5_code (4 : Nat) (Option.some Jvm.ClassFile.FieldType.int) [((0 : Nat), (9 : Nat), (12 : Nat), (13 : Nat))]) ∈ zT := zw_tb (zq_tables_1_5 _ (List.mem_of_getElem? (i := 178) rfl)) rfl
theorem zw_1248 : (Jvm.Cond.methodLink "NumberDressLaw" (21 : Nat) ({ cls := "NumberDress", name := "about", desc := "(I)I" } : Jvm.MethodName)) ∈ zT := zw_tb (zq_tables_1_5 _ (List.mem_of_getElem? (i := 179) rfl)) rfl
theorem zw_1249 : (Jvm.Cond.instanceMethod ({ cls := "NumberDress", name := "about", desc := "(I)I" } : Jvm.MethodName)) ∈ zT := zw_tb (zq_tables_1_5 _ (List.mem_of_getElem? (i := 180) rfl)) rfl
theorem zw_1250 : (Jvm.Cond.selects "NumberDress" ({ cls := "NumberDress", name := "about", desc := "(I)I" } : Jvm.MethodName) ({ cls := "NumberDress", name := "about", desc := "(I)I" } : Jvm.MethodName)) ∈ zT := zw_tb (zq_tables_1_5 _ (List.mem_of_getElem? (i := 181) rfl)) rfl
theorem zw_1251 : (Jvm.Cond.code ({ cls := "NumberDress", name := "about", desc := "(I)I" } : Jvm.MethodName) prog_1_method_9_code (3 : Nat) (Option.some Jvm.ClassFile.FieldType.int)) ∈ zT := zw_tb (zq_tables_1_5 _ (List.mem_of_getElem? (i := 182) rfl)) rfl
theorem zw_1253 : (Jvm.Cond.methodLink "NumberDress" (106 : Nat) ({ cls := "NumberDress$Code", name := "sectionFor", desc := "(LNumberDress$Value;)I" } : Jvm.MethodName)) ∈ zT := zw_tb (zq_tables_1_5 _ (List.mem_of_getElem? (i := 184) rfl)) rfl
theorem zw_1254 : (Jvm.Cond.methodLink "NumberDress" (110 : Nat) ({ cls := "NumberDress$Code", name := "section", desc := "(I)LNumberDress$Section;" } : Jvm.MethodName)) ∈ zT := zw_tb (zq_tables_1_5 _ (List.mem_of_getElem? (i := 185) rfl)) rfl
theorem zw_1255 : (Jvm.Cond.classLink "NumberDressLaw" (25 : Nat) "NumberDressModel") ∈ zT := zw_tb (zq_tables_1_5 _ (List.mem_of_getElem? (i := 186) rfl)) rfl
theorem zw_1256 : (Jvm.Cond.instantiable "NumberDressModel" (41 : Nat)) ∈ zT := zw_tb (zq_tables_1_5 _ (List.mem_of_getElem? (i := 187) rfl)) rfl
theorem zw_1257 : (Jvm.Cond.methodLink "NumberDressLaw" (27 : Nat) ({ cls := "NumberDressModel", name := "<init>", desc := "()V" } : Jvm.MethodName)) ∈ zT := zw_tb (zq_tables_1_5 _ (List.mem_of_getElem? (i := 188) rfl)) rfl
theorem zw_1258 : (Jvm.Cond.instanceMethod ({ cls := "NumberDressModel", name := "<init>", desc := "()V" } : Jvm.MethodName)) ∈ zT := zw_tb (zq_tables_1_5 _ (List.mem_of_getElem? (i := 189) rfl)) rfl
theorem zw_1259 : (Jvm.Cond.code ({ cls := "NumberDressModel", name := "<init>", desc := "()V" } : Jvm.MethodName) prog_14_method_1_code (1 : Nat) (Option.none : Option Jvm.ClassFile.FieldType)) ∈ zT := zw_tb (zq_tables_1_5 _ (List.mem_of_getElem? (i := 190) rfl)) rfl
theorem zw_1260 : (Jvm.Cond.methodLink "NumberDressModel" (1 : Nat) ({ cls := "java/lang/Object", name := "<init>", desc := "()V" } : Jvm.MethodName)) ∈ zT := zw_tb (zq_tables_1_5 _ (List.mem_of_getElem? (i := 191) rfl)) rfl
theorem zw_1261 : (Jvm.Cond.fieldLink "NumberDressModel" (55 : Nat) "NumberDressModel" "code" "I") ∈ zT := zw_tb (zq_tables_1_5 _ (List.mem_of_getElem? (i := 192) rfl)) rfl
theorem zw_1262 : (Jvm.Cond.fieldLink "NumberDressModel" (69 : Nat) "NumberDressModel" "length" "I") ∈ zT := zw_tb (zq_tables_1_5 _ (List.mem_of_getElem? (i := 193) rfl)) rfl
theorem zw_1263 : (Jvm.Cond.fieldLink "NumberDressModel" (7 : Nat) "NumberDressModel" "typed" "[I") ∈ zT := zw_tb (zq_tables_1_5 _ (List.mem_of_getElem? (i := 194) rfl)) rfl
theorem zw_1264 : (Jvm.Cond.fieldLink "NumberDressModel" (59 : Nat) "NumberDressModel" "end" "I") ∈ zT := zw_tb (zq_tables_1_5 _ (List.mem_of_getElem? (i := 195) rfl)) rfl
theorem zw_1265 : (Jvm.Cond.fieldLink "NumberDressModel" (13 : Nat) "NumberDressModel" "sections" "[I") ∈ zT := zw_tb (zq_tables_1_5 _ (List.mem_of_getElem? (i := 196) rfl)) rfl
theorem zw_1266 : (Jvm.Cond.fieldLink "NumberDressModel" (16 : Nat) "NumberDressModel" "sectionKind" "[I") ∈ zT := zw_tb (zq_tables_1_5 _ (List.mem_of_getElem? (i := 197) rfl)) rfl
theorem zw_1267 : (Jvm.Cond.fieldLink "NumberDressModel" (19 : Nat) "NumberDressModel" "sectionItem" "[I") ∈ zT := zw_tb (zq_tables_1_5 _ (List.mem_of_getElem? (i := 198) rfl)) rfl
theorem zw_1268 : (Jvm.Cond.fieldLink "NumberDressModel" (22 : Nat) "NumberDressModel" "sectionEnd" "[I") ∈ zT := zw_tb (zq_tables_1_5 _ (List.mem_of_getElem? (i := 199) rfl)) rfl
theorem zw_1269 : (Jvm.Cond.fieldLink "NumberDressModel" (25 : Nat) "NumberDressModel" "kind" "[I") ∈ zT := zw_tb (zq_tables_1_5 _ (List.mem_of_getElem? (i := 200) rfl)) rfl
theorem zw_1270 : (Jvm.Cond.fieldLink "NumberDressModel" (28 : Nat) "NumberDressModel" "first" "[I") ∈ zT := zw_tb (zq_tables_1_5 _ (List.mem_of_getElem? (i := 201) rfl)) rfl
theorem zw_1271 : (Jvm.Cond.fieldLink "NumberDressModel" (31 : Nat) "NumberDressModel" "second" "[I") ∈ zT := zw_tb (zq_tables_1_5 _ (List.mem_of_getElem? (i := 202) rfl)) rfl
theorem zw_1272 : (Jvm.Cond.fieldLink "NumberDressModel" (34 : Nat) "NumberDressModel" "packed" "[I") ∈ zT := zw_tb (zq_tables_1_5 _ (List.mem_of_getElem? (i := 203) rfl)) rfl
theorem zw_1273 : (Jvm.Cond.fieldLink "NumberDressModel" (144 : Nat) "NumberDressModel" "items" "I") ∈ zT := zw_tb (zq_tables_1_5 _ (List.mem_of_getElem? (i := 204) rfl)) rfl
theorem zw_1274 : (Jvm.Cond.fieldLink "NumberDressModel" (166 : Nat) "NumberDressModel" "wrong" "I") ∈ zT := zw_tb (zq_tables_1_5 _ (List.mem_of_getElem? (i := 205) rfl)) rfl
theorem zw_1275 : (Jvm.Cond.fieldLink "NumberDressModel" (147 : Nat) "NumberDressModel" "at" "I") ∈ zT := zw_tb (zq_tables_1_5 _ (List.mem_of_getElem? (i := 206) rfl)) rfl
theorem zw_1276 : (Jvm.Cond.fieldLink "NumberDressModel" (179 : Nat) "NumberDressModel" "point" "Z") ∈ zT := zw_tb (zq_tables_1_5 _ (List.mem_of_getElem? (i := 207) rfl)) rfl
theorem zw_1277 : (Jvm.Cond.fieldLink "NumberDressModel" (163 : Nat) "NumberDressModel" "parted" "Z") ∈ zT := zw_tb (zq_tables_1_5 _ (List.mem_of_getElem? (i := 208) rfl)) rfl
theorem zw_1278 : (Jvm.Cond.fieldLink "NumberDressModel" (176 : Nat) "NumberDressModel" "behind" "Z") ∈ zT := zw_tb (zq_tables_1_5 _ (List.mem_of_getElem? (i := 209) rfl)) rfl
theorem zw_1279 : (Jvm.Cond.fieldLink "NumberDressModel" (160 : Nat) "NumberDressModel" "commas" "Z") ∈ zT := zw_tb (zq_tables_1_5 _ (List.mem_of_getElem? (i := 210) rfl)) rfl
theorem zw_1280 : (Jvm.Cond.fieldLink "NumberDressModel" (169 : Nat) "NumberDressModel" "percents" "Z") ∈ zT := zw_tb (zq_tables_1_5 _ (List.mem_of_getElem? (i := 211) rfl)) rfl
theorem zw_1281 : (Jvm.Cond.fieldLink "NumberDressModel" (76 : Nat) "NumberDressModel" "isText" "Z") ∈ zT := zw_tb (zq_tables_1_5 _ (List.mem_of_getElem? (i := 212) rfl)) rfl
theorem zw_1282 : (Jvm.Cond.fieldLink "NumberDressModel" (91 : Nat) "NumberDressModel" "textLength" "I") ∈ zT := zw_tb (zq_tables_1_5 _ (List.mem_of_getElem? (i := 213) rfl)) rfl
theorem zw_1283 : (Jvm.Cond.fieldLink "NumberDressModel" (37 : Nat) "NumberDressModel" "text" "[I") ∈ zT := zw_tb (zq_tables_1_5 _ (List.mem_of_getElem? (i := 214) rfl)) rfl
theorem zw_1284 : (Jvm.Cond.fieldLink "NumberDressModel" (80 : Nat) "NumberDressModel" "negative" "Z") ∈ zT := zw_tb (zq_tables_1_5 _ (List.mem_of_getElem? (i := 215) rfl)) rfl
theorem zw_1285 : (Jvm.Cond.fieldLink "NumberDressModel" (83 : Nat) "NumberDressModel" "count" "I") ∈ zT := zw_tb (zq_tables_1_5 _ (List.mem_of_getElem? (i := 216) rfl)) rfl
theorem zw_1286 : (Jvm.Cond.fieldLink "NumberDressModel" (88 : Nat) "NumberDressModel" "place" "I") ∈ zT := zw_tb (zq_tables_1_5 _ (List.mem_of_getElem? (i := 217) rfl)) rfl
theorem zw_1287 : (Jvm.Cond.fieldLink "NumberDressModel" (40 : Nat) "NumberDressModel" "digits" "[I") ∈ zT := zw_tb (zq_tables_1_5 _ (List.mem_of_getElem? (i := 218) rfl)) rfl
theorem zw_1288 : (Jvm.Cond.fieldLink "NumberDressModel" (219 : Nat) "NumberDressModel" "many" "I") ∈ zT := zw_tb (zq_tables_1_5 _ (List.mem_of_getElem? (i := 219) rfl)) rfl
theorem zw_1289 : (Jvm.Cond.fieldLink "NumberDressModel" (222 : Nat) "NumberDressModel" "dot" "I") ∈ zT := zw_tb (zq_tables_1_5 _ (List.mem_of_getElem? (i := 220) rfl)) rfl
theorem zw_1290 : (Jvm.Cond.fieldLink "NumberDressModel" (43 : Nat) "NumberDressModel" "row" "[I") ∈ zT := zw_tb (zq_tables_1_5 _ (List.mem_of_getElem? (i := 221) rfl)) rfl
theorem zw_1291 : (Jvm.Cond.fieldLink "NumberDressModel" (225 : Nat) "NumberDressModel" "wholes" "I") ∈ zT := zw_tb (zq_tables_1_5 _ (List.mem_of_getElem? (i := 222) rfl)) rfl
theorem zw_1292 : (Jvm.Cond.fieldLink "NumberDressModel" (46 : Nat) "NumberDressModel" "whole" "[I") ∈ zT := zw_tb (zq_tables_1_5 _ (List.mem_of_getElem? (i := 223) rfl)) rfl
theorem zw_1293 : (Jvm.Cond.fieldLink "NumberDressModel" (49 : Nat) "NumberDressModel" "rest" "[I") ∈ zT := zw_tb (zq_tables_1_5 _ (List.mem_of_getElem? (i := 224) rfl)) rfl
theorem zw_1294 : (Jvm.Cond.fieldLink "NumberDressModel" (231 : Nat) "NumberDressModel" "size" "I") ∈ zT := zw_tb (zq_tables_1_5 _ (List.mem_of_getElem? (i := 225) rfl)) rfl
theorem zw_1295 : (Jvm.Cond.fieldLink "NumberDressModel" (52 : Nat) "NumberDressModel" "look" "[I") ∈ zT := zw_tb (zq_tables_1_5 _ (List.mem_of_getElem? (i := 226) rfl)) rfl
theorem zw_1296 : (Jvm.Cond.fieldLink "NumberDressModel" (298 : Nat) "NumberDressModel" "day" "I") ∈ zT := zw_tb (zq_tables_1_5 _ (List.mem_of_getElem? (i := 227) rfl)) rfl
theorem zw_1297 : (Jvm.Cond.fieldLink "NumberDressModel" (308 : Nat) "NumberDressModel" "ticks" "J") ∈ zT := zw_tb (zq_tables_1_5 _ (List.mem_of_getElem? (i := 228) rfl)) rfl
theorem zw_1298 : (Jvm.Cond.fieldLink "NumberDressModel" (295 : Nat) "NumberDressModel" "parts" "I") ∈ zT := zw_tb (zq_tables_1_5 _ (List.mem_of_getElem? (i := 229) rfl)) rfl
theorem zw_1299 : (Jvm.Cond.fieldLink "NumberDressModel" (313 : Nat) "NumberDressModel" "year" "I") ∈ zT := zw_tb (zq_tables_1_5 _ (List.mem_of_getElem? (i := 230) rfl)) rfl
theorem zw_1300 : (Jvm.Cond.fieldLink "NumberDressModel" (316 : Nat) "NumberDressModel" "month" "I") ∈ zT := zw_tb (zq_tables_1_5 _ (List.mem_of_getElem? (i := 231) rfl)) rfl
theorem zw_1301 : (Jvm.Cond.fieldLink "NumberDressModel" (319 : Nat) "NumberDressModel" "dayOfMonth" "I") ∈ zT := zw_tb (zq_tables_1_5 _ (List.mem_of_getElem? (i := 232) rfl)) rfl
theorem zw_1385 : (Jvm.Cond.methodLink "NumberDressLaw" (33 : Nat) ({ cls := "NumberDressModel", name := "type", desc := "(I)I" } : Jvm.MethodName)) ∈ zT := zw_tb (zq_tables_1_6 _ (List.mem_of_getElem? (i := 76) rfl)) rfl
theorem zw_1386 : (Jvm.Cond.instanceMethod ({ cls := "NumberDressModel", name := "type", desc := "(I)I" } : Jvm.MethodName)) ∈ zT := zw_tb (zq_tables_1_6 _ (List.mem_of_getElem? (i := 77) rfl)) rfl
theorem zw_1387 : (Jvm.Cond.selects "NumberDressModel" ({ cls := "NumberDressModel", name := "type", desc := "(I)I" } : Jvm.MethodName) ({ cls := "NumberDressModel", name := "type", desc := "(I)I" } : Jvm.MethodName)) ∈ zT := zw_tb (zq_tables_1_6 _ (List.mem_of_getElem? (i := 78) rfl)) rfl
theorem zw_1388 : (Jvm.Cond.code ({ cls := "NumberDressModel", name := "type", desc := "(I)I" } : Jvm.MethodName) prog_14_method_6_code (6 : Nat) (Option.some Jvm.ClassFile.FieldType.int)) ∈ zT := zw_tb (zq_tables_1_6 _ (List.mem_of_getElem? (i := 79) rfl)) rfl
theorem zw_1389 : (Jvm.Cond.methodLink "NumberDressLaw" (37 : Nat) ({ cls := "NumberDressModel", name := "erase", desc := "()V" } : Jvm.MethodName)) ∈ zT := zw_tb (zq_tables_1_6 _ (List.mem_of_getElem? (i := 80) rfl)) rfl
theorem zw_1390 : (Jvm.Cond.instanceMethod ({ cls := "NumberDressModel", name := "erase", desc := "()V" } : Jvm.MethodName)) ∈ zT := zw_tb (zq_tables_1_6 _ (List.mem_of_getElem? (i := 81) rfl)) rfl
theorem zw_1391 : (Jvm.Cond.selects "NumberDressModel" ({ cls := "NumberDressModel", name := "erase", desc := "()V" } : Jvm.MethodName) ({ cls := "NumberDressModel", name := "erase", desc := "()V" } : Jvm.MethodName)) ∈ zT := zw_tb (zq_tables_1_6 _ (List.mem_of_getElem? (i := 82) rfl)) rfl
theorem zw_1392 : (Jvm.Cond.code ({ cls := "NumberDressModel", name := "erase", desc := "()V" } : Jvm.MethodName) prog_14_method_7_code (1 : Nat) (Option.none : Option Jvm.ClassFile.FieldType)) ∈ zT := zw_tb (zq_tables_1_6 _ (List.mem_of_getElem? (i := 83) rfl)) rfl
theorem zw_1393 : (Jvm.Cond.methodLink "NumberDressLaw" (46 : Nat) ({ cls := "NumberDressModel", name := "number", desc := "(ZIII)V" } : Jvm.MethodName)) ∈ zT := zw_tb (zq_tables_1_6 _ (List.mem_of_getElem? (i := 84) rfl)) rfl
theorem zw_1394 : (Jvm.Cond.instanceMethod ({ cls := "NumberDressModel", name := "number", desc := "(ZIII)V" } : Jvm.MethodName)) ∈ zT := zw_tb (zq_tables_1_6 _ (List.mem_of_getElem? (i := 85) rfl)) rfl
theorem zw_1395 : (Jvm.Cond.selects "NumberDressModel" ({ cls := "NumberDressModel", name := "number", desc := "(ZIII)V" } : Jvm.MethodName) ({ cls := "NumberDressModel", name := "number", desc := "(ZIII)V" } : Jvm.MethodName)) ∈ zT := zw_tb (zq_tables_1_6 _ (List.mem_of_getElem? (i := 86) rfl)) rfl
theorem zw_1396 : (Jvm.Cond.code ({ cls := "NumberDressModel", name := "number", desc := "(ZIII)V" } : Jvm.MethodName) prog_14_method_8_code (10 : Nat) (Option.none : Option Jvm.ClassFile.FieldType)) ∈ zT := zw_tb (zq_tables_1_6 _ (List.mem_of_getElem? (i := 87) rfl)) rfl
theorem zw_1397 : (Jvm.Cond.constant "NumberDressModel" (72 : Nat) (99999999 : Int32)) ∈ zT := zw_tb (zq_tables_1_6 _ (List.mem_of_getElem? (i := 88) rfl)) rfl
theorem zw_1398 : (Jvm.Cond.constant "NumberDressModel" (73 : Nat) (999999999 : Int32)) ∈ zT := zw_tb (zq_tables_1_6 _ (List.mem_of_getElem? (i := 89) rfl)) rfl
theorem zw_1399 : (Jvm.Cond.constantLong "NumberDressModel" (74 : Nat) (1000000000 : Int64)) ∈ zT := zw_tb (zq_tables_1_6 _ (List.mem_of_getElem? (i := 90) rfl)) rfl
theorem zw_1400 : (Jvm.Cond.constantLong "NumberDressModel" (86 : Nat) (10 : Int64)) ∈ zT := zw_tb (zq_tables_1_6 _ (List.mem_of_getElem? (i := 91) rfl)) rfl
theorem zw_1401 : (Jvm.Cond.methodLink "NumberDressLaw" (50 : Nat) ({ cls := "NumberDressModel", name := "text", desc := "()V" } : Jvm.MethodName)) ∈ zT := zw_tb (zq_tables_1_6 _ (List.mem_of_getElem? (i := 92) rfl)) rfl
theorem zw_1402 : (Jvm.Cond.instanceMethod ({ cls := "NumberDressModel", name := "text", desc := "()V" } : Jvm.MethodName)) ∈ zT := zw_tb (zq_tables_1_6 _ (List.mem_of_getElem? (i := 93) rfl)) rfl
theorem zw_1403 : (Jvm.Cond.selects "NumberDressModel" ({ cls := "NumberDressModel", name := "text", desc := "()V" } : Jvm.MethodName) ({ cls := "NumberDressModel", name := "text", desc := "()V" } : Jvm.MethodName)) ∈ zT := zw_tb (zq_tables_1_6 _ (List.mem_of_getElem? (i := 94) rfl)) rfl
theorem zw_1404 : (Jvm.Cond.code ({ cls := "NumberDressModel", name := "text", desc := "()V" } : Jvm.MethodName) prog_14_method_9_code (2 : Nat) (Option.none : Option Jvm.ClassFile.FieldType)) ∈ zT := zw_tb (zq_tables_1_6 _ (List.mem_of_getElem? (i := 95) rfl)) rfl
theorem zw_1405 : (Jvm.Cond.methodLink "NumberDressLaw" (42 : Nat) ({ cls := "NumberDressModel", name := "code", desc := "()I" } : Jvm.MethodName)) ∈ zT := zw_tb (zq_tables_1_6 _ (List.mem_of_getElem? (i := 96) rfl)) rfl
theorem zw_1406 : (Jvm.Cond.instanceMethod ({ cls := "NumberDressModel", name := "code", desc := "()I" } : Jvm.MethodName)) ∈ zT := zw_tb (zq_tables_1_6 _ (List.mem_of_getElem? (i := 97) rfl)) rfl
theorem zw_1407 : (Jvm.Cond.selects "NumberDressModel" ({ cls := "NumberDressModel", name := "code", desc := "()I" } : Jvm.MethodName) ({ cls := "NumberDressModel", name := "code", desc := "()I" } : Jvm.MethodName)) ∈ zT := zw_tb (zq_tables_1_6 _ (List.mem_of_getElem? (i := 98) rfl)) rfl
theorem zw_1408 : (Jvm.Cond.code ({ cls := "NumberDressModel", name := "code", desc := "()I" } : Jvm.MethodName) prog_14_method_32_code (5 : Nat) (Option.some Jvm.ClassFile.FieldType.int)) ∈ zT := zw_tb (zq_tables_1_6 _ (List.mem_of_getElem? (i := 99) rfl)) rfl
theorem zw_1409 : (Jvm.Cond.methodLink "NumberDressModel" (213 : Nat) ({ cls := "NumberDressModel", name := "endOf", desc := "(I)I" } : Jvm.MethodName)) ∈ zT := zw_tb (zq_tables_1_6 _ (List.mem_of_getElem? (i := 100) rfl)) rfl
theorem zw_1411 : (Jvm.Cond.instanceMethod ({ cls := "NumberDressModel", name := "endOf", desc := "(I)I" } : Jvm.MethodName)) ∈ zT := zw_tb (zq_tables_1_6 _ (List.mem_of_getElem? (i := 102) rfl)) rfl
theorem zw_1412 : (Jvm.Cond.code ({ cls := "NumberDressModel", name := "endOf", desc := "(I)I" } : Jvm.MethodName) prog_14_method_18_code (3 : Nat) (Option.some Jvm.ClassFile.FieldType.int)) ∈ zT := zw_tb (zq_tables_1_6 _ (List.mem_of_getElem? (i := 103) rfl)) rfl
theorem zw_1413 : (Jvm.Cond.methodLink "NumberDressModel" (119 : Nat) ({ cls := "NumberDressModel", name := "quotesEnd", desc := "(I)I" } : Jvm.MethodName)) ∈ zT := zw_tb (zq_tables_1_6 _ (List.mem_of_getElem? (i := 104) rfl)) rfl
theorem zw_1415 : (Jvm.Cond.instanceMethod ({ cls := "NumberDressModel", name := "quotesEnd", desc := "(I)I" } : Jvm.MethodName)) ∈ zT := zw_tb (zq_tables_1_6 _ (List.mem_of_getElem? (i := 106) rfl)) rfl
theorem zw_1416 : (Jvm.Cond.code ({ cls := "NumberDressModel", name := "quotesEnd", desc := "(I)I" } : Jvm.MethodName) prog_14_method_10_code (3 : Nat) (Option.some Jvm.ClassFile.FieldType.int)) ∈ zT := zw_tb (zq_tables_1_6 _ (List.mem_of_getElem? (i := 107) rfl)) rfl
theorem zw_1417 : (Jvm.Cond.methodLink "NumberDressModel" (122 : Nat) ({ cls := "NumberDressModel", name := "isPair", desc := "(I)Z" } : Jvm.MethodName)) ∈ zT := zw_tb (zq_tables_1_6 _ (List.mem_of_getElem? (i := 108) rfl)) rfl
theorem zw_1419 : (Jvm.Cond.instanceMethod ({ cls := "NumberDressModel", name := "isPair", desc := "(I)Z" } : Jvm.MethodName)) ∈ zT := zw_tb (zq_tables_1_6 _ (List.mem_of_getElem? (i := 110) rfl)) rfl
theorem zw_1420 : (Jvm.Cond.code ({ cls := "NumberDressModel", name := "isPair", desc := "(I)Z" } : Jvm.MethodName) prog_14_method_11_code (2 : Nat) (Option.some Jvm.ClassFile.FieldType.boolean)) ∈ zT := zw_tb (zq_tables_1_6 _ (List.mem_of_getElem? (i := 111) rfl)) rfl
theorem zw_1421 : (Jvm.Cond.methodLink "NumberDressModel" (62 : Nat) ({ cls := "NumberDressModel", name := "ch", desc := "(I)I" } : Jvm.MethodName)) ∈ zT := zw_tb (zq_tables_1_6 _ (List.mem_of_getElem? (i := 112) rfl)) rfl
theorem zw_1423 : (Jvm.Cond.instanceMethod ({ cls := "NumberDressModel", name := "ch", desc := "(I)I" } : Jvm.MethodName)) ∈ zT := zw_tb (zq_tables_1_6 _ (List.mem_of_getElem? (i := 114) rfl)) rfl
theorem zw_1424 : (Jvm.Cond.code ({ cls := "NumberDressModel", name := "ch", desc := "(I)I" } : Jvm.MethodName) prog_14_method_4_code (2 : Nat) (Option.some Jvm.ClassFile.FieldType.int)) ∈ zT := zw_tb (zq_tables_1_6 _ (List.mem_of_getElem? (i := 115) rfl)) rfl
theorem zw_1425 : (Jvm.Cond.methodLink "NumberDressModel" (216 : Nat) ({ cls := "NumberDressModel", name := "readSection", desc := "(III)V" } : Jvm.MethodName)) ∈ zT := zw_tb (zq_tables_1_6 _ (List.mem_of_getElem? (i := 116) rfl)) rfl
theorem zw_1427 : (Jvm.Cond.instanceMethod ({ cls := "NumberDressModel", name := "readSection", desc := "(III)V" } : Jvm.MethodName)) ∈ zT := zw_tb (zq_tables_1_6 _ (List.mem_of_getElem? (i := 118) rfl)) rfl
theorem zw_1428 : (Jvm.Cond.code ({ cls := "NumberDressModel", name := "readSection", desc := "(III)V" } : Jvm.MethodName) prog_14_method_31_code (7 : Nat) (Option.none : Option Jvm.ClassFile.FieldType)) ∈ zT := zw_tb (zq_tables_1_6 _ (List.mem_of_getElem? (i := 119) rfl)) rfl
theorem zw_1429 : (Jvm.Cond.methodLink "NumberDressModel" (196 : Nat) ({ cls := "NumberDressModel", name := "kindOf", desc := "(II)I" } : Jvm.MethodName)) ∈ zT := zw_tb (zq_tables_1_6 _ (List.mem_of_getElem? (i := 120) rfl)) rfl
theorem zw_1431 : (Jvm.Cond.instanceMethod ({ cls := "NumberDressModel", name := "kindOf", desc := "(II)I" } : Jvm.MethodName)) ∈ zT := zw_tb (zq_tables_1_6 _ (List.mem_of_getElem? (i := 122) rfl)) rfl
theorem zw_1432 : (Jvm.Cond.code ({ cls := "NumberDressModel", name := "kindOf", desc := "(II)I" } : Jvm.MethodName) prog_14_method_19_code (5 : Nat) (Option.some Jvm.ClassFile.FieldType.int)) ∈ zT := zw_tb (zq_tables_1_6 _ (List.mem_of_getElem? (i := 123) rfl)) rfl
theorem zw_1433 : (Jvm.Cond.constantLong "NumberDressModel" (126 : Nat) (29103447424000364 : Int64)) ∈ zT := zw_tb (zq_tables_1_6 _ (List.mem_of_getElem? (i := 124) rfl)) rfl
theorem zw_1434 : (Jvm.Cond.methodLink "NumberDressModel" (101 : Nat) ({ cls := "NumberDressModel", name := "stands", desc := "(IJ)Z" } : Jvm.MethodName)) ∈ zT := zw_tb (zq_tables_1_6 _ (List.mem_of_getElem? (i := 125) rfl)) rfl
theorem zw_1436 : (Jvm.Cond.instanceMethod ({ cls := "NumberDressModel", name := "stands", desc := "(IJ)Z" } : Jvm.MethodName)) ∈ zT := zw_tb (zq_tables_1_6 _ (List.mem_of_getElem? (i := 127) rfl)) rfl
theorem zw_1437 : (Jvm.Cond.code ({ cls := "NumberDressModel", name := "stands", desc := "(IJ)Z" } : Jvm.MethodName) prog_14_method_12_code (7 : Nat) (Option.some Jvm.ClassFile.FieldType.boolean)) ∈ zT := zw_tb (zq_tables_1_6 _ (List.mem_of_getElem? (i := 128) rfl)) rfl
theorem zw_1438 : (Jvm.Cond.methodLink "NumberDressModel" (94 : Nat) ({ cls := "NumberDressModel", name := "low", desc := "(I)I" } : Jvm.MethodName)) ∈ zT := zw_tb (zq_tables_1_6 _ (List.mem_of_getElem? (i := 129) rfl)) rfl
theorem zw_1440 : (Jvm.Cond.instanceMethod ({ cls := "NumberDressModel", name := "low", desc := "(I)I" } : Jvm.MethodName)) ∈ zT := zw_tb (zq_tables_1_6 _ (List.mem_of_getElem? (i := 131) rfl)) rfl
theorem zw_1441 : (Jvm.Cond.code ({ cls := "NumberDressModel", name := "low", desc := "(I)I" } : Jvm.MethodName) prog_14_method_5_code (2 : Nat) (Option.some Jvm.ClassFile.FieldType.int)) ∈ zT := zw_tb (zq_tables_1_6 _ (List.mem_of_getElem? (i := 132) rfl)) rfl
theorem zw_1442 : (Jvm.Cond.methodLink "NumberDressModel" (66 : Nat) ({ cls := "NumberDressModel", name := "small", desc := "(I)I" } : Jvm.MethodName)) ∈ zT := zw_tb (zq_tables_1_6 _ (List.mem_of_getElem? (i := 133) rfl)) rfl
theorem zw_1443 : (Jvm.Cond.static ({ cls := "NumberDressModel", name := "small", desc := "(I)I" } : Jvm.MethodName)) ∈ zT := zw_tb (zq_tables_1_6 _ (List.mem_of_getElem? (i := 134) rfl)) rfl
theorem zw_1444 : (Jvm.Cond.code ({ cls := "NumberDressModel", name := "small", desc := "(I)I" } : Jvm.MethodName) prog_14_method_3_code (1 : Nat) (Option.some Jvm.ClassFile.FieldType.int)) ∈ zT := zw_tb (zq_tables_1_6 _ (List.mem_of_getElem? (i := 135) rfl)) rfl
theorem zw_1445 : (Jvm.Cond.constantLong "NumberDressModel" (97 : Nat) (255 : Int64)) ∈ zT := zw_tb (zq_tables_1_6 _ (List.mem_of_getElem? (i := 136) rfl)) rfl
theorem zw_1446 : (Jvm.Cond.methodLink "NumberDressModel" (128 : Nat) ({ cls := "NumberDressModel", name := "isPlace", desc := "(I)Z" } : Jvm.MethodName)) ∈ zT := zw_tb (zq_tables_1_6 _ (List.mem_of_getElem? (i := 137) rfl)) rfl
theorem zw_1447 : (Jvm.Cond.static ({ cls := "NumberDressModel", name := "isPlace", desc := "(I)Z" } : Jvm.MethodName)) ∈ zT := zw_tb (zq_tables_1_6 _ (List.mem_of_getElem? (i := 138) rfl)) rfl
theorem zw_1448 : (Jvm.Cond.code ({ cls := "NumberDressModel", name := "isPlace", desc := "(I)Z" } : Jvm.MethodName) prog_14_method_15_code (1 : Nat) (Option.some Jvm.ClassFile.FieldType.boolean)) ∈ zT := zw_tb (zq_tables_1_6 _ (List.mem_of_getElem? (i := 139) rfl)) rfl
theorem zw_1449 : (Jvm.Cond.methodLink "NumberDressModel" (131 : Nat) ({ cls := "NumberDressModel", name := "isRow", desc := "(I)Z" } : Jvm.MethodName)) ∈ zT := zw_tb (zq_tables_1_6 _ (List.mem_of_getElem? (i := 140) rfl)) rfl
theorem zw_1450 : (Jvm.Cond.static ({ cls := "NumberDressModel", name := "isRow", desc := "(I)Z" } : Jvm.MethodName)) ∈ zT := zw_tb (zq_tables_1_6 _ (List.mem_of_getElem? (i := 141) rfl)) rfl
theorem zw_1451 : (Jvm.Cond.code ({ cls := "NumberDressModel", name := "isRow", desc := "(I)Z" } : Jvm.MethodName) prog_14_method_16_code (1 : Nat) (Option.some Jvm.ClassFile.FieldType.boolean)) ∈ zT := zw_tb (zq_tables_1_6 _ (List.mem_of_getElem? (i := 142) rfl)) rfl
theorem zw_1452 : (Jvm.Cond.methodLink "NumberDressModel" (134 : Nat) ({ cls := "NumberDressModel", name := "inBrackets", desc := "(I)I" } : Jvm.MethodName)) ∈ zT := zw_tb (zq_tables_1_6 _ (List.mem_of_getElem? (i := 143) rfl)) rfl
theorem zw_1454 : (Jvm.Cond.instanceMethod ({ cls := "NumberDressModel", name := "inBrackets", desc := "(I)I" } : Jvm.MethodName)) ∈ zT := zw_tb (zq_tables_1_6 _ (List.mem_of_getElem? (i := 145) rfl)) rfl
theorem zw_1455 : (Jvm.Cond.code ({ cls := "NumberDressModel", name := "inBrackets", desc := "(I)I" } : Jvm.MethodName) prog_14_method_14_code (4 : Nat) (Option.some Jvm.ClassFile.FieldType.int)) ∈ zT := zw_tb (zq_tables_1_6 _ (List.mem_of_getElem? (i := 146) rfl)) rfl
theorem zw_1456 : (Jvm.Cond.constantLong "NumberDressModel" (137 : Nat) (418443653229 : Int64)) ∈ zT := zw_tb (zq_tables_1_6 _ (List.mem_of_getElem? (i := 147) rfl)) rfl
theorem zw_1457 : (Jvm.Cond.constantLong "NumberDressModel" (139 : Nat) (6369136 : Int64)) ∈ zT := zw_tb (zq_tables_1_6 _ (List.mem_of_getElem? (i := 148) rfl)) rfl
theorem zw_1458 : (Jvm.Cond.methodLink "NumberDressModel" (141 : Nat) ({ cls := "NumberDressModel", name := "colour", desc := "(I)I" } : Jvm.MethodName)) ∈ zT := zw_tb (zq_tables_1_6 _ (List.mem_of_getElem? (i := 149) rfl)) rfl
theorem zw_1460 : (Jvm.Cond.instanceMethod ({ cls := "NumberDressModel", name := "colour", desc := "(I)I" } : Jvm.MethodName)) ∈ zT := zw_tb (zq_tables_1_6 _ (List.mem_of_getElem? (i := 151) rfl)) rfl
theorem zw_1461 : (Jvm.Cond.code ({ cls := "NumberDressModel", name := "colour", desc := "(I)I" } : Jvm.MethodName) prog_14_method_13_code (3 : Nat) (Option.some Jvm.ClassFile.FieldType.int)) ∈ zT := zw_tb (zq_tables_1_6 _ (List.mem_of_getElem? (i := 152) rfl)) rfl
theorem zw_1462 : (Jvm.Cond.constantLong "NumberDressModel" (99 : Nat) (422725116779 : Int64)) ∈ zT := zw_tb (zq_tables_1_6 _ (List.mem_of_getElem? (i := 153) rfl)) rfl
theorem zw_1463 : (Jvm.Cond.constantLong "NumberDressModel" (105 : Nat) (444300879214 : Int64)) ∈ zT := zw_tb (zq_tables_1_6 _ (List.mem_of_getElem? (i := 154) rfl)) rfl
theorem zw_1464 : (Jvm.Cond.constantLong "NumberDressModel" (107 : Nat) (512852849765 : Int64)) ∈ zT := zw_tb (zq_tables_1_6 _ (List.mem_of_getElem? (i := 155) rfl)) rfl
theorem zw_1465 : (Jvm.Cond.constantLong "NumberDressModel" (109 : Nat) (1651275109 : Int64)) ∈ zT := zw_tb (zq_tables_1_6 _ (List.mem_of_getElem? (i := 156) rfl)) rfl
theorem zw_1466 : (Jvm.Cond.constantLong "NumberDressModel" (111 : Nat) (1668899182 : Int64)) ∈ zT := zw_tb (zq_tables_1_6 _ (List.mem_of_getElem? (i := 157) rfl)) rfl
theorem zw_1467 : (Jvm.Cond.constantLong "NumberDressModel" (113 : Nat) (7497060 : Int64)) ∈ zT := zw_tb (zq_tables_1_6 _ (List.mem_of_getElem? (i := 158) rfl)) rfl
theorem zw_1468 : (Jvm.Cond.constantLong "NumberDressModel" (115 : Nat) (133476517703543 : Int64)) ∈ zT := zw_tb (zq_tables_1_6 _ (List.mem_of_getElem? (i := 159) rfl)) rfl
theorem zw_1469 : (Jvm.Cond.constantLong "NumberDressModel" (117 : Nat) (30787869172724833 : Int64)) ∈ zT := zw_tb (zq_tables_1_6 _ (List.mem_of_getElem? (i := 160) rfl)) rfl
theorem zw_1470 : (Jvm.Cond.methodLink "NumberDressModel" (200 : Nat) ({ cls := "NumberDressModel", name := "common", desc := "()Z" } : Jvm.MethodName)) ∈ zT := zw_tb (zq_tables_1_6 _ (List.mem_of_getElem? (i := 161) rfl)) rfl
theorem zw_1472 : (Jvm.Cond.instanceMethod ({ cls := "NumberDressModel", name := "common", desc := "()Z" } : Jvm.MethodName)) ∈ zT := zw_tb (zq_tables_1_6 _ (List.mem_of_getElem? (i := 163) rfl)) rfl
theorem zw_1473 : (Jvm.Cond.code ({ cls := "NumberDressModel", name := "common", desc := "()Z" } : Jvm.MethodName) prog_14_method_22_code (4 : Nat) (Option.some Jvm.ClassFile.FieldType.boolean)) ∈ zT := zw_tb (zq_tables_1_6 _ (List.mem_of_getElem? (i := 164) rfl)) rfl
theorem zw_1474 : (Jvm.Cond.methodLink "NumberDressModel" (150 : Nat) ({ cls := "NumberDressModel", name := "item", desc := "(III)V" } : Jvm.MethodName)) ∈ zT := zw_tb (zq_tables_1_6 _ (List.mem_of_getElem? (i := 165) rfl)) rfl
theorem zw_1476 : (Jvm.Cond.instanceMethod ({ cls := "NumberDressModel", name := "item", desc := "(III)V" } : Jvm.MethodName)) ∈ zT := zw_tb (zq_tables_1_6 _ (List.mem_of_getElem? (i := 167) rfl)) rfl
theorem zw_1477 : (Jvm.Cond.code ({ cls := "NumberDressModel", name := "item", desc := "(III)V" } : Jvm.MethodName) prog_14_method_20_code (4 : Nat) (Option.none : Option Jvm.ClassFile.FieldType)) ∈ zT := zw_tb (zq_tables_1_6 _ (List.mem_of_getElem? (i := 168) rfl)) rfl
theorem zw_1478 : (Jvm.Cond.methodLink "NumberDressModel" (154 : Nat) ({ cls := "NumberDressModel", name := "isSign", desc := "(I)Z" } : Jvm.MethodName)) ∈ zT := zw_tb (zq_tables_1_6 _ (List.mem_of_getElem? (i := 169) rfl)) rfl
theorem zw_1479 : (Jvm.Cond.static ({ cls := "NumberDressModel", name := "isSign", desc := "(I)Z" } : Jvm.MethodName)) ∈ zT := zw_tb (zq_tables_1_6 _ (List.mem_of_getElem? (i := 170) rfl)) rfl
theorem zw_1480 : (Jvm.Cond.code ({ cls := "NumberDressModel", name := "isSign", desc := "(I)Z" } : Jvm.MethodName) prog_14_method_17_code (1 : Nat) (Option.some Jvm.ClassFile.FieldType.boolean)) ∈ zT := zw_tb (zq_tables_1_6 _ (List.mem_of_getElem? (i := 171) rfl)) rfl
theorem zw_1481 : (Jvm.Cond.methodLink "NumberDressModel" (204 : Nat) ({ cls := "NumberDressModel", name := "numberItem", desc := "(II)V" } : Jvm.MethodName)) ∈ zT := zw_tb (zq_tables_1_6 _ (List.mem_of_getElem? (i := 172) rfl)) rfl
theorem zw_1483 : (Jvm.Cond.instanceMethod ({ cls := "NumberDressModel", name := "numberItem", desc := "(II)V" } : Jvm.MethodName)) ∈ zT := zw_tb (zq_tables_1_6 _ (List.mem_of_getElem? (i := 174) rfl)) rfl
theorem zw_1484 : (Jvm.Cond.code ({ cls := "NumberDressModel", name := "numberItem", desc := "(II)V" } : Jvm.MethodName) prog_14_method_27_code (4 : Nat) (Option.none : Option Jvm.ClassFile.FieldType)) ∈ zT := zw_tb (zq_tables_1_6 _ (List.mem_of_getElem? (i := 175) rfl)) rfl
theorem zw_1485 : (Jvm.Cond.methodLink "NumberDressModel" (182 : Nat) ({ cls := "NumberDressModel", name := "comma", desc := "(I)V" } : Jvm.MethodName)) ∈ zT := zw_tb (zq_tables_1_6 _ (List.mem_of_getElem? (i := 176) rfl)) rfl
theorem zw_1487 : (Jvm.Cond.instanceMethod ({ cls := "NumberDressModel", name := "comma", desc := "(I)V" } : Jvm.MethodName)) ∈ zT := zw_tb (zq_tables_1_6 _ (List.mem_of_getElem? (i := 178) rfl)) rfl
theorem zw_1488 : (Jvm.Cond.code ({ cls := "NumberDressModel", name := "comma", desc := "(I)V" } : Jvm.MethodName) prog_14_method_23_code (3 : Nat) (Option.none : Option Jvm.ClassFile.FieldType)) ∈ zT := zw_tb (zq_tables_1_6 _ (List.mem_of_getElem? (i := 179) rfl)) rfl
theorem zw_1489 : (Jvm.Cond.methodLink "NumberDressModel" (157 : Nat) ({ cls := "NumberDressModel", name := "before", desc := "(I)I" } : Jvm.MethodName)) ∈ zT := zw_tb (zq_tables_1_6 _ (List.mem_of_getElem? (i := 180) rfl)) rfl
theorem zw_1491 : (Jvm.Cond.instanceMethod ({ cls := "NumberDressModel", name := "before", desc := "(I)I" } : Jvm.MethodName)) ∈ zT := zw_tb (zq_tables_1_6 _ (List.mem_of_getElem? (i := 182) rfl)) rfl
theorem zw_1492 : (Jvm.Cond.code ({ cls := "NumberDressModel", name := "before", desc := "(I)I" } : Jvm.MethodName) prog_14_method_21_code (2 : Nat) (Option.some Jvm.ClassFile.FieldType.int)) ∈ zT := zw_tb (zq_tables_1_6 _ (List.mem_of_getElem? (i := 183) rfl)) rfl
theorem zw_1493 : (Jvm.Cond.methodLink "NumberDressModel" (186 : Nat) ({ cls := "NumberDressModel", name := "power", desc := "(II)V" } : Jvm.MethodName)) ∈ zT := zw_tb (zq_tables_1_6 _ (List.mem_of_getElem? (i := 184) rfl)) rfl
theorem zw_1495 : (Jvm.Cond.instanceMethod ({ cls := "NumberDressModel", name := "power", desc := "(II)V" } : Jvm.MethodName)) ∈ zT := zw_tb (zq_tables_1_6 _ (List.mem_of_getElem? (i := 186) rfl)) rfl
theorem zw_1496 : (Jvm.Cond.code ({ cls := "NumberDressModel", name := "power", desc := "(II)V" } : Jvm.MethodName) prog_14_method_25_code (5 : Nat) (Option.none : Option Jvm.ClassFile.FieldType)) ∈ zT := zw_tb (zq_tables_1_6 _ (List.mem_of_getElem? (i := 187) rfl)) rfl
theorem zw_1497 : (Jvm.Cond.methodLink "NumberDressModel" (172 : Nat) ({ cls := "NumberDressModel", name := "gather", desc := "(Z)V" } : Jvm.MethodName)) ∈ zT := zw_tb (zq_tables_1_6 _ (List.mem_of_getElem? (i := 188) rfl)) rfl
theorem zw_1499 : (Jvm.Cond.instanceMethod ({ cls := "NumberDressModel", name := "gather", desc := "(Z)V" } : Jvm.MethodName)) ∈ zT := zw_tb (zq_tables_1_6 _ (List.mem_of_getElem? (i := 190) rfl)) rfl
theorem zw_1500 : (Jvm.Cond.code ({ cls := "NumberDressModel", name := "gather", desc := "(Z)V" } : Jvm.MethodName) prog_14_method_24_code (4 : Nat) (Option.none : Option Jvm.ClassFile.FieldType)) ∈ zT := zw_tb (zq_tables_1_6 _ (List.mem_of_getElem? (i := 191) rfl)) rfl
theorem zw_1501 : (Jvm.Cond.methodLink "NumberDressModel" (190 : Nat) ({ cls := "NumberDressModel", name := "stroke", desc := "(II)V" } : Jvm.MethodName)) ∈ zT := zw_tb (zq_tables_1_6 _ (List.mem_of_getElem? (i := 192) rfl)) rfl
theorem zw_1503 : (Jvm.Cond.instanceMethod ({ cls := "NumberDressModel", name := "stroke", desc := "(II)V" } : Jvm.MethodName)) ∈ zT := zw_tb (zq_tables_1_6 _ (List.mem_of_getElem? (i := 194) rfl)) rfl
theorem zw_1504 : (Jvm.Cond.code ({ cls := "NumberDressModel", name := "stroke", desc := "(II)V" } : Jvm.MethodName) prog_14_method_26_code (6 : Nat) (Option.none : Option Jvm.ClassFile.FieldType)) ∈ zT := zw_tb (zq_tables_1_6 _ (List.mem_of_getElem? (i := 195) rfl)) rfl
theorem zw_1505 : (Jvm.Cond.methodLink "NumberDressModel" (207 : Nat) ({ cls := "NumberDressModel", name := "dateItem", desc := "(I)V" } : Jvm.MethodName)) ∈ zT := zw_tb (zq_tables_1_6 _ (List.mem_of_getElem? (i := 196) rfl)) rfl
theorem zw_1507 : (Jvm.Cond.instanceMethod ({ cls := "NumberDressModel", name := "dateItem", desc := "(I)V" } : Jvm.MethodName)) ∈ zT := zw_tb (zq_tables_1_6 _ (List.mem_of_getElem? (i := 198) rfl)) rfl
theorem zw_1508 : (Jvm.Cond.code ({ cls := "NumberDressModel", name := "dateItem", desc := "(I)V" } : Jvm.MethodName) prog_14_method_28_code (8 : Nat) (Option.none : Option Jvm.ClassFile.FieldType)) ∈ zT := zw_tb (zq_tables_1_6 _ (List.mem_of_getElem? (i := 199) rfl)) rfl
theorem zw_1509 : (Jvm.Cond.methodLink "NumberDressModel" (193 : Nat) ({ cls := "NumberDressModel", name := "plainItem", desc := "()V" } : Jvm.MethodName)) ∈ zT := zw_tb (zq_tables_1_6 _ (List.mem_of_getElem? (i := 200) rfl)) rfl
theorem zw_1511 : (Jvm.Cond.instanceMethod ({ cls := "NumberDressModel", name := "plainItem", desc := "()V" } : Jvm.MethodName)) ∈ zT := zw_tb (zq_tables_1_6 _ (List.mem_of_getElem? (i := 202) rfl)) rfl
theorem zw_1512 : (Jvm.Cond.code ({ cls := "NumberDressModel", name := "plainItem", desc := "()V" } : Jvm.MethodName) prog_14_method_29_code (2 : Nat) (Option.none : Option Jvm.ClassFile.FieldType)) ∈ zT := zw_tb (zq_tables_1_6 _ (List.mem_of_getElem? (i := 203) rfl)) rfl
theorem zw_1513 : (Jvm.Cond.methodLink "NumberDressModel" (210 : Nat) ({ cls := "NumberDressModel", name := "minutes", desc := "(I)V" } : Jvm.MethodName)) ∈ zT := zw_tb (zq_tables_1_6 _ (List.mem_of_getElem? (i := 204) rfl)) rfl
theorem zw_1515 : (Jvm.Cond.instanceMethod ({ cls := "NumberDressModel", name := "minutes", desc := "(I)V" } : Jvm.MethodName)) ∈ zT := zw_tb (zq_tables_1_6 _ (List.mem_of_getElem? (i := 206) rfl)) rfl
theorem zw_1516 : (Jvm.Cond.code ({ cls := "NumberDressModel", name := "minutes", desc := "(I)V" } : Jvm.MethodName) prog_14_method_30_code (8 : Nat) (Option.none : Option Jvm.ClassFile.FieldType)) ∈ zT := zw_tb (zq_tables_1_6 _ (List.mem_of_getElem? (i := 207) rfl)) rfl
theorem zw_1517 : (Jvm.Cond.methodLink "NumberDressLaw" (54 : Nat) ({ cls := "NumberDressModel", name := "look", desc := "()I" } : Jvm.MethodName)) ∈ zT := zw_tb (zq_tables_1_6 _ (List.mem_of_getElem? (i := 208) rfl)) rfl
theorem zw_1518 : (Jvm.Cond.instanceMethod ({ cls := "NumberDressModel", name := "look", desc := "()I" } : Jvm.MethodName)) ∈ zT := zw_tb (zq_tables_1_6 _ (List.mem_of_getElem? (i := 209) rfl)) rfl
theorem zw_1519 : (Jvm.Cond.selects "NumberDressModel" ({ cls := "NumberDressModel", name := "look", desc := "()I" } : Jvm.MethodName) ({ cls := "NumberDressModel", name := "look", desc := "()I" } : Jvm.MethodName)) ∈ zT := zw_tb (zq_tables_1_6 _ (List.mem_of_getElem? (i := 210) rfl)) rfl
theorem zw_1520 : (Jvm.Cond.code ({ cls := "NumberDressModel", name := "look", desc := "()I" } : Jvm.MethodName) prog_14_method_67_code (1 : Nat) (Option.some Jvm.ClassFile.FieldType.int)) ∈ zT := zw_tb (zq_tables_1_6 _ (List.mem_of_getElem? (i := 211) rfl)) rfl
theorem zw_1521 : (Jvm.Cond.methodLink "NumberDressModel" (414 : Nat) ({ cls := "NumberDressModel", name := "make", desc := "()V" } : Jvm.MethodName)) ∈ zT := zw_tb (zq_tables_1_6 _ (List.mem_of_getElem? (i := 212) rfl)) rfl
theorem zw_1523 : (Jvm.Cond.instanceMethod ({ cls := "NumberDressModel", name := "make", desc := "()V" } : Jvm.MethodName)) ∈ zT := zw_tb (zq_tables_1_6 _ (List.mem_of_getElem? (i := 214) rfl)) rfl
theorem zw_1524 : (Jvm.Cond.code ({ cls := "NumberDressModel", name := "make", desc := "()V" } : Jvm.MethodName) prog_14_method_66_code (3 : Nat) (Option.none : Option Jvm.ClassFile.FieldType)) ∈ zT := zw_tb (zq_tables_1_6 _ (List.mem_of_getElem? (i := 215) rfl)) rfl
theorem zw_1525 : (Jvm.Cond.methodLink "NumberDressModel" (392 : Nat) ({ cls := "NumberDressModel", name := "taken", desc := "()I" } : Jvm.MethodName)) ∈ zT := zw_tb (zq_tables_1_6 _ (List.mem_of_getElem? (i := 216) rfl)) rfl
theorem zw_1527 : (Jvm.Cond.instanceMethod ({ cls := "NumberDressModel", name := "taken", desc := "()I" } : Jvm.MethodName)) ∈ zT := zw_tb (zq_tables_1_6 _ (List.mem_of_getElem? (i := 218) rfl)) rfl
theorem zw_1528 : (Jvm.Cond.code ({ cls := "NumberDressModel", name := "taken", desc := "()I" } : Jvm.MethodName) prog_14_method_64_code (6 : Nat) (Option.some Jvm.ClassFile.FieldType.int)) ∈ zT := zw_tb (zq_tables_1_6 _ (List.mem_of_getElem? (i := 219) rfl)) rfl
theorem zw_1529 : (Jvm.Cond.methodLink "NumberDressModel" (234 : Nat) ({ cls := "NumberDressModel", name := "put", desc := "(I)V" } : Jvm.MethodName)) ∈ zT := zw_tb (zq_tables_1_6 _ (List.mem_of_getElem? (i := 220) rfl)) rfl
theorem zw_1531 : (Jvm.Cond.instanceMethod ({ cls := "NumberDressModel", name := "put", desc := "(I)V" } : Jvm.MethodName)) ∈ zT := zw_tb (zq_tables_1_6 _ (List.mem_of_getElem? (i := 222) rfl)) rfl
theorem zw_1532 : (Jvm.Cond.code ({ cls := "NumberDressModel", name := "put", desc := "(I)V" } : Jvm.MethodName) prog_14_method_37_code (2 : Nat) (Option.none : Option Jvm.ClassFile.FieldType)) ∈ zT := zw_tb (zq_tables_1_6 _ (List.mem_of_getElem? (i := 223) rfl)) rfl
theorem zw_1533 : (Jvm.Cond.methodLink "NumberDressModel" (396 : Nat) ({ cls := "NumberDressModel", name := "general", desc := "()V" } : Jvm.MethodName)) ∈ zT := zw_tb (zq_tables_1_6 _ (List.mem_of_getElem? (i := 224) rfl)) rfl
theorem zw_1535 : (Jvm.Cond.instanceMethod ({ cls := "NumberDressModel", name := "general", desc := "()V" } : Jvm.MethodName)) ∈ zT := zw_tb (zq_tables_1_6 _ (List.mem_of_getElem? (i := 226) rfl)) rfl
theorem zw_1536 : (Jvm.Cond.code ({ cls := "NumberDressModel", name := "general", desc := "()V" } : Jvm.MethodName) prog_14_method_40_code (2 : Nat) (Option.none : Option Jvm.ClassFile.FieldType)) ∈ zT := zw_tb (zq_tables_1_6 _ (List.mem_of_getElem? (i := 227) rfl)) rfl
theorem zw_1537 : (Jvm.Cond.methodLink "NumberDressModel" (239 : Nat) ({ cls := "NumberDressModel", name := "take", desc := "(I)V" } : Jvm.MethodName)) ∈ zT := zw_tb (zq_tables_1_6 _ (List.mem_of_getElem? (i := 228) rfl)) rfl
theorem zw_1539 : (Jvm.Cond.instanceMethod ({ cls := "NumberDressModel", name := "take", desc := "(I)V" } : Jvm.MethodName)) ∈ zT := zw_tb (zq_tables_1_6 _ (List.mem_of_getElem? (i := 230) rfl)) rfl
theorem zw_1540 : (Jvm.Cond.code ({ cls := "NumberDressModel", name := "take", desc := "(I)V" } : Jvm.MethodName) prog_14_method_33_code (3 : Nat) (Option.none : Option Jvm.ClassFile.FieldType)) ∈ zT := zw_tb (zq_tables_1_6 _ (List.mem_of_getElem? (i := 231) rfl)) rfl
theorem zw_1541 : (Jvm.Cond.methodLink "NumberDressModel" (242 : Nat) ({ cls := "NumberDressModel", name := "figures", desc := "(JI)V" } : Jvm.MethodName)) ∈ zT := zw_tb (zq_tables_1_6 _ (List.mem_of_getElem? (i := 232) rfl)) rfl
theorem zw_1543 : (Jvm.Cond.instanceMethod ({ cls := "NumberDressModel", name := "figures", desc := "(JI)V" } : Jvm.MethodName)) ∈ zT := zw_tb (zq_tables_1_6 _ (List.mem_of_getElem? (i := 234) rfl)) rfl
theorem zw_1544 : (Jvm.Cond.code ({ cls := "NumberDressModel", name := "figures", desc := "(JI)V" } : Jvm.MethodName) prog_14_method_39_code (7 : Nat) (Option.none : Option Jvm.ClassFile.FieldType)) ∈ zT := zw_tb (zq_tables_1_6 _ (List.mem_of_getElem? (i := 235) rfl)) rfl
theorem zw_1545 : (Jvm.Cond.constantLong "NumberDressModel" (237 : Nat) (48 : Int64)) ∈ zT := zw_tb (zq_tables_1_6 _ (List.mem_of_getElem? (i := 236) rfl)) rfl
theorem zw_1546 : (Jvm.Cond.methodLink "NumberDressModel" (228 : Nat) ({ cls := "NumberDressModel", name := "digit", desc := "(I)I" } : Jvm.MethodName)) ∈ zT := zw_tb (zq_tables_1_6 _ (List.mem_of_getElem? (i := 237) rfl)) rfl
theorem zw_1548 : (Jvm.Cond.instanceMethod ({ cls := "NumberDressModel", name := "digit", desc := "(I)I" } : Jvm.MethodName)) ∈ zT := zw_tb (zq_tables_1_6 _ (List.mem_of_getElem? (i := 239) rfl)) rfl
theorem zw_1549 : (Jvm.Cond.code ({ cls := "NumberDressModel", name := "digit", desc := "(I)I" } : Jvm.MethodName) prog_14_method_34_code (3 : Nat) (Option.some Jvm.ClassFile.FieldType.int)) ∈ zT := zw_tb (zq_tables_1_7 _ (List.mem_of_getElem? (i := 0) rfl)) rfl
theorem zw_1550 : (Jvm.Cond.methodLink "NumberDressModel" (399 : Nat) ({ cls := "NumberDressModel", name := "number", desc := "(IZ)V" } : Jvm.MethodName)) ∈ zT := zw_tb (zq_tables_1_7 _ (List.mem_of_getElem? (i := 1) rfl)) rfl
theorem zw_1552 : (Jvm.Cond.instanceMethod ({ cls := "NumberDressModel", name := "number", desc := "(IZ)V" } : Jvm.MethodName)) ∈ zT := zw_tb (zq_tables_1_7 _ (List.mem_of_getElem? (i := 3) rfl)) rfl
theorem zw_1553 : (Jvm.Cond.code ({ cls := "NumberDressModel", name := "number", desc := "(IZ)V" } : Jvm.MethodName) prog_14_method_49_code (3 : Nat) (Option.none : Option Jvm.ClassFile.FieldType)) ∈ zT := zw_tb (zq_tables_1_7 _ (List.mem_of_getElem? (i := 4) rfl)) rfl
theorem zw_1554 : (Jvm.Cond.methodLink "NumberDressModel" (256 : Nat) ({ cls := "NumberDressModel", name := "countOf", desc := "(II)I" } : Jvm.MethodName)) ∈ zT := zw_tb (zq_tables_1_7 _ (List.mem_of_getElem? (i := 5) rfl)) rfl
theorem zw_1556 : (Jvm.Cond.instanceMethod ({ cls := "NumberDressModel", name := "countOf", desc := "(II)I" } : Jvm.MethodName)) ∈ zT := zw_tb (zq_tables_1_7 _ (List.mem_of_getElem? (i := 7) rfl)) rfl
theorem zw_1557 : (Jvm.Cond.code ({ cls := "NumberDressModel", name := "countOf", desc := "(II)I" } : Jvm.MethodName) prog_14_method_41_code (5 : Nat) (Option.some Jvm.ClassFile.FieldType.int)) ∈ zT := zw_tb (zq_tables_1_7 _ (List.mem_of_getElem? (i := 8) rfl)) rfl
theorem zw_1558 : (Jvm.Cond.methodLink "NumberDressModel" (269 : Nat) ({ cls := "NumberDressModel", name := "round", desc := "(I)V" } : Jvm.MethodName)) ∈ zT := zw_tb (zq_tables_1_7 _ (List.mem_of_getElem? (i := 9) rfl)) rfl
theorem zw_1560 : (Jvm.Cond.instanceMethod ({ cls := "NumberDressModel", name := "round", desc := "(I)V" } : Jvm.MethodName)) ∈ zT := zw_tb (zq_tables_1_7 _ (List.mem_of_getElem? (i := 11) rfl)) rfl
theorem zw_1561 : (Jvm.Cond.code ({ cls := "NumberDressModel", name := "round", desc := "(I)V" } : Jvm.MethodName) prog_14_method_35_code (6 : Nat) (Option.none : Option Jvm.ClassFile.FieldType)) ∈ zT := zw_tb (zq_tables_1_7 _ (List.mem_of_getElem? (i := 12) rfl)) rfl
theorem zw_1562 : (Jvm.Cond.methodLink "NumberDressModel" (272 : Nat) ({ cls := "NumberDressModel", name := "sign", desc := "(Z)V" } : Jvm.MethodName)) ∈ zT := zw_tb (zq_tables_1_7 _ (List.mem_of_getElem? (i := 13) rfl)) rfl
theorem zw_1564 : (Jvm.Cond.instanceMethod ({ cls := "NumberDressModel", name := "sign", desc := "(Z)V" } : Jvm.MethodName)) ∈ zT := zw_tb (zq_tables_1_7 _ (List.mem_of_getElem? (i := 15) rfl)) rfl
theorem zw_1565 : (Jvm.Cond.code ({ cls := "NumberDressModel", name := "sign", desc := "(Z)V" } : Jvm.MethodName) prog_14_method_48_code (2 : Nat) (Option.none : Option Jvm.ClassFile.FieldType)) ∈ zT := zw_tb (zq_tables_1_7 _ (List.mem_of_getElem? (i := 16) rfl)) rfl
theorem zw_1566 : (Jvm.Cond.methodLink "NumberDressModel" (275 : Nat) ({ cls := "NumberDressModel", name := "places", desc := "(II)V" } : Jvm.MethodName)) ∈ zT := zw_tb (zq_tables_1_7 _ (List.mem_of_getElem? (i := 17) rfl)) rfl
theorem zw_1568 : (Jvm.Cond.instanceMethod ({ cls := "NumberDressModel", name := "places", desc := "(II)V" } : Jvm.MethodName)) ∈ zT := zw_tb (zq_tables_1_7 _ (List.mem_of_getElem? (i := 19) rfl)) rfl
theorem zw_1569 : (Jvm.Cond.code ({ cls := "NumberDressModel", name := "places", desc := "(II)V" } : Jvm.MethodName) prog_14_method_47_code (10 : Nat) (Option.none : Option Jvm.ClassFile.FieldType)) ∈ zT := zw_tb (zq_tables_1_7 _ (List.mem_of_getElem? (i := 20) rfl)) rfl
theorem zw_1570 : (Jvm.Cond.methodLink "NumberDressModel" (253 : Nat) ({ cls := "NumberDressModel", name := "split", desc := "()V" } : Jvm.MethodName)) ∈ zT := zw_tb (zq_tables_1_7 _ (List.mem_of_getElem? (i := 21) rfl)) rfl
theorem zw_1572 : (Jvm.Cond.instanceMethod ({ cls := "NumberDressModel", name := "split", desc := "()V" } : Jvm.MethodName)) ∈ zT := zw_tb (zq_tables_1_7 _ (List.mem_of_getElem? (i := 23) rfl)) rfl
theorem zw_1573 : (Jvm.Cond.code ({ cls := "NumberDressModel", name := "split", desc := "()V" } : Jvm.MethodName) prog_14_method_36_code (2 : Nat) (Option.none : Option Jvm.ClassFile.FieldType)) ∈ zT := zw_tb (zq_tables_1_7 _ (List.mem_of_getElem? (i := 24) rfl)) rfl
theorem zw_1574 : (Jvm.Cond.methodLink "NumberDressModel" (249 : Nat) ({ cls := "NumberDressModel", name := "wholePlace", desc := "(IIZZ)V" } : Jvm.MethodName)) ∈ zT := zw_tb (zq_tables_1_7 _ (List.mem_of_getElem? (i := 25) rfl)) rfl
theorem zw_1576 : (Jvm.Cond.instanceMethod ({ cls := "NumberDressModel", name := "wholePlace", desc := "(IIZZ)V" } : Jvm.MethodName)) ∈ zT := zw_tb (zq_tables_1_7 _ (List.mem_of_getElem? (i := 27) rfl)) rfl
theorem zw_1577 : (Jvm.Cond.code ({ cls := "NumberDressModel", name := "wholePlace", desc := "(IIZZ)V" } : Jvm.MethodName) prog_14_method_43_code (6 : Nat) (Option.none : Option Jvm.ClassFile.FieldType)) ∈ zT := zw_tb (zq_tables_1_7 _ (List.mem_of_getElem? (i := 28) rfl)) rfl
theorem zw_1578 : (Jvm.Cond.methodLink "NumberDressModel" (246 : Nat) ({ cls := "NumberDressModel", name := "blank", desc := "(I)V" } : Jvm.MethodName)) ∈ zT := zw_tb (zq_tables_1_7 _ (List.mem_of_getElem? (i := 29) rfl)) rfl
theorem zw_1580 : (Jvm.Cond.instanceMethod ({ cls := "NumberDressModel", name := "blank", desc := "(I)V" } : Jvm.MethodName)) ∈ zT := zw_tb (zq_tables_1_7 _ (List.mem_of_getElem? (i := 31) rfl)) rfl
theorem zw_1581 : (Jvm.Cond.code ({ cls := "NumberDressModel", name := "blank", desc := "(I)V" } : Jvm.MethodName) prog_14_method_42_code (2 : Nat) (Option.none : Option Jvm.ClassFile.FieldType)) ∈ zT := zw_tb (zq_tables_1_7 _ (List.mem_of_getElem? (i := 32) rfl)) rfl
theorem zw_1582 : (Jvm.Cond.methodLink "NumberDressModel" (259 : Nat) ({ cls := "NumberDressModel", name := "zerosFrom", desc := "(II)Z" } : Jvm.MethodName)) ∈ zT := zw_tb (zq_tables_1_7 _ (List.mem_of_getElem? (i := 33) rfl)) rfl
theorem zw_1584 : (Jvm.Cond.instanceMethod ({ cls := "NumberDressModel", name := "zerosFrom", desc := "(II)Z" } : Jvm.MethodName)) ∈ zT := zw_tb (zq_tables_1_7 _ (List.mem_of_getElem? (i := 35) rfl)) rfl
theorem zw_1585 : (Jvm.Cond.code ({ cls := "NumberDressModel", name := "zerosFrom", desc := "(II)Z" } : Jvm.MethodName) prog_14_method_46_code (5 : Nat) (Option.some Jvm.ClassFile.FieldType.boolean)) ∈ zT := zw_tb (zq_tables_1_7 _ (List.mem_of_getElem? (i := 36) rfl)) rfl
theorem zw_1586 : (Jvm.Cond.methodLink "NumberDressModel" (263 : Nat) ({ cls := "NumberDressModel", name := "wholeOf", desc := "(I)V" } : Jvm.MethodName)) ∈ zT := zw_tb (zq_tables_1_7 _ (List.mem_of_getElem? (i := 37) rfl)) rfl
theorem zw_1588 : (Jvm.Cond.instanceMethod ({ cls := "NumberDressModel", name := "wholeOf", desc := "(I)V" } : Jvm.MethodName)) ∈ zT := zw_tb (zq_tables_1_7 _ (List.mem_of_getElem? (i := 39) rfl)) rfl
theorem zw_1589 : (Jvm.Cond.code ({ cls := "NumberDressModel", name := "wholeOf", desc := "(I)V" } : Jvm.MethodName) prog_14_method_45_code (3 : Nat) (Option.none : Option Jvm.ClassFile.FieldType)) ∈ zT := zw_tb (zq_tables_1_7 _ (List.mem_of_getElem? (i := 40) rfl)) rfl
theorem zw_1590 : (Jvm.Cond.methodLink "NumberDressModel" (266 : Nat) ({ cls := "NumberDressModel", name := "packedPlaces", desc := "(II)V" } : Jvm.MethodName)) ∈ zT := zw_tb (zq_tables_1_7 _ (List.mem_of_getElem? (i := 41) rfl)) rfl
theorem zw_1592 : (Jvm.Cond.instanceMethod ({ cls := "NumberDressModel", name := "packedPlaces", desc := "(II)V" } : Jvm.MethodName)) ∈ zT := zw_tb (zq_tables_1_7 _ (List.mem_of_getElem? (i := 43) rfl)) rfl
theorem zw_1593 : (Jvm.Cond.code ({ cls := "NumberDressModel", name := "packedPlaces", desc := "(II)V" } : Jvm.MethodName) prog_14_method_44_code (4 : Nat) (Option.none : Option Jvm.ClassFile.FieldType)) ∈ zT := zw_tb (zq_tables_1_7 _ (List.mem_of_getElem? (i := 44) rfl)) rfl
theorem zw_1594 : (Jvm.Cond.methodLink "NumberDressModel" (403 : Nat) ({ cls := "NumberDressModel", name := "power", desc := "(IZ)V" } : Jvm.MethodName)) ∈ zT := zw_tb (zq_tables_1_7 _ (List.mem_of_getElem? (i := 45) rfl)) rfl
theorem zw_1596 : (Jvm.Cond.instanceMethod ({ cls := "NumberDressModel", name := "power", desc := "(IZ)V" } : Jvm.MethodName)) ∈ zT := zw_tb (zq_tables_1_7 _ (List.mem_of_getElem? (i := 47) rfl)) rfl
theorem zw_1597 : (Jvm.Cond.code ({ cls := "NumberDressModel", name := "power", desc := "(IZ)V" } : Jvm.MethodName) prog_14_method_50_code (7 : Nat) (Option.none : Option Jvm.ClassFile.FieldType)) ∈ zT := zw_tb (zq_tables_1_7 _ (List.mem_of_getElem? (i := 48) rfl)) rfl
theorem zw_1598 : (Jvm.Cond.methodLink "NumberDressModel" (405 : Nat) ({ cls := "NumberDressModel", name := "fraction", desc := "(IZ)V" } : Jvm.MethodName)) ∈ zT := zw_tb (zq_tables_1_7 _ (List.mem_of_getElem? (i := 49) rfl)) rfl
theorem zw_1600 : (Jvm.Cond.instanceMethod ({ cls := "NumberDressModel", name := "fraction", desc := "(IZ)V" } : Jvm.MethodName)) ∈ zT := zw_tb (zq_tables_1_7 _ (List.mem_of_getElem? (i := 51) rfl)) rfl
theorem zw_1601 : (Jvm.Cond.code ({ cls := "NumberDressModel", name := "fraction", desc := "(IZ)V" } : Jvm.MethodName) prog_14_method_51_code (22 : Nat) (Option.none : Option Jvm.ClassFile.FieldType)) ∈ zT := zw_tb (zq_tables_1_7 _ (List.mem_of_getElem? (i := 52) rfl)) rfl
theorem zw_1602 : (Jvm.Cond.constantLong "NumberDressModel" (278 : Nat) (1000000000000000 : Int64)) ∈ zT := zw_tb (zq_tables_1_7 _ (List.mem_of_getElem? (i := 53) rfl)) rfl
theorem zw_1603 : (Jvm.Cond.constantLong "NumberDressModel" (280 : Nat) (-1 : Int64)) ∈ zT := zw_tb (zq_tables_1_7 _ (List.mem_of_getElem? (i := 54) rfl)) rfl
theorem zw_1604 : (Jvm.Cond.constantLong "NumberDressModel" (282 : Nat) (2 : Int64)) ∈ zT := zw_tb (zq_tables_1_7 _ (List.mem_of_getElem? (i := 55) rfl)) rfl
theorem zw_1605 : (Jvm.Cond.methodLink "NumberDressModel" (284 : Nat) ({ cls := "NumberDressModel", name := "putFraction", desc := "(IIIZI)V" } : Jvm.MethodName)) ∈ zT := zw_tb (zq_tables_1_7 _ (List.mem_of_getElem? (i := 56) rfl)) rfl
theorem zw_1607 : (Jvm.Cond.instanceMethod ({ cls := "NumberDressModel", name := "putFraction", desc := "(IIIZI)V" } : Jvm.MethodName)) ∈ zT := zw_tb (zq_tables_1_7 _ (List.mem_of_getElem? (i := 58) rfl)) rfl
theorem zw_1608 : (Jvm.Cond.code ({ cls := "NumberDressModel", name := "putFraction", desc := "(IIIZI)V" } : Jvm.MethodName) prog_14_method_52_code (12 : Nat) (Option.none : Option Jvm.ClassFile.FieldType)) ∈ zT := zw_tb (zq_tables_1_7 _ (List.mem_of_getElem? (i := 59) rfl)) rfl
theorem zw_1609 : (Jvm.Cond.methodLink "NumberDressModel" (288 : Nat) ({ cls := "NumberDressModel", name := "putUnder", desc := "(IZI)V" } : Jvm.MethodName)) ∈ zT := zw_tb (zq_tables_1_7 _ (List.mem_of_getElem? (i := 60) rfl)) rfl
theorem zw_1611 : (Jvm.Cond.instanceMethod ({ cls := "NumberDressModel", name := "putUnder", desc := "(IZI)V" } : Jvm.MethodName)) ∈ zT := zw_tb (zq_tables_1_7 _ (List.mem_of_getElem? (i := 62) rfl)) rfl
theorem zw_1612 : (Jvm.Cond.code ({ cls := "NumberDressModel", name := "putUnder", desc := "(IZI)V" } : Jvm.MethodName) prog_14_method_53_code (9 : Nat) (Option.none : Option Jvm.ClassFile.FieldType)) ∈ zT := zw_tb (zq_tables_1_7 _ (List.mem_of_getElem? (i := 63) rfl)) rfl
theorem zw_1613 : (Jvm.Cond.methodLink "NumberDressModel" (408 : Nat) ({ cls := "NumberDressModel", name := "date", desc := "(I)V" } : Jvm.MethodName)) ∈ zT := zw_tb (zq_tables_1_7 _ (List.mem_of_getElem? (i := 64) rfl)) rfl
theorem zw_1615 : (Jvm.Cond.instanceMethod ({ cls := "NumberDressModel", name := "date", desc := "(I)V" } : Jvm.MethodName)) ∈ zT := zw_tb (zq_tables_1_7 _ (List.mem_of_getElem? (i := 66) rfl)) rfl
theorem zw_1616 : (Jvm.Cond.code ({ cls := "NumberDressModel", name := "date", desc := "(I)V" } : Jvm.MethodName) prog_14_method_63_code (9 : Nat) (Option.none : Option Jvm.ClassFile.FieldType)) ∈ zT := zw_tb (zq_tables_1_7 _ (List.mem_of_getElem? (i := 67) rfl)) rfl
theorem zw_1617 : (Jvm.Cond.methodLink "NumberDressModel" (376 : Nat) ({ cls := "NumberDressModel", name := "findDay", desc := "(I)Z" } : Jvm.MethodName)) ∈ zT := zw_tb (zq_tables_1_7 _ (List.mem_of_getElem? (i := 68) rfl)) rfl
theorem zw_1619 : (Jvm.Cond.instanceMethod ({ cls := "NumberDressModel", name := "findDay", desc := "(I)Z" } : Jvm.MethodName)) ∈ zT := zw_tb (zq_tables_1_7 _ (List.mem_of_getElem? (i := 70) rfl)) rfl
theorem zw_1620 : (Jvm.Cond.code ({ cls := "NumberDressModel", name := "findDay", desc := "(I)Z" } : Jvm.MethodName) prog_14_method_57_code (11 : Nat) (Option.some Jvm.ClassFile.FieldType.boolean)) ∈ zT := zw_tb (zq_tables_1_7 _ (List.mem_of_getElem? (i := 71) rfl)) rfl
theorem zw_1621 : (Jvm.Cond.constantLong "NumberDressModel" (301 : Nat) (86400 : Int64)) ∈ zT := zw_tb (zq_tables_1_7 _ (List.mem_of_getElem? (i := 72) rfl)) rfl
theorem zw_1622 : (Jvm.Cond.methodLink "NumberDressModel" (303 : Nat) ({ cls := "NumberDressModel", name := "tenTo", desc := "(I)I" } : Jvm.MethodName)) ∈ zT := zw_tb (zq_tables_1_7 _ (List.mem_of_getElem? (i := 73) rfl)) rfl
theorem zw_1623 : (Jvm.Cond.static ({ cls := "NumberDressModel", name := "tenTo", desc := "(I)I" } : Jvm.MethodName)) ∈ zT := zw_tb (zq_tables_1_7 _ (List.mem_of_getElem? (i := 74) rfl)) rfl
theorem zw_1624 : (Jvm.Cond.code ({ cls := "NumberDressModel", name := "tenTo", desc := "(I)I" } : Jvm.MethodName) prog_14_method_56_code (1 : Nat) (Option.some Jvm.ClassFile.FieldType.int)) ∈ zT := zw_tb (zq_tables_1_7 _ (List.mem_of_getElem? (i := 75) rfl)) rfl
theorem zw_1625 : (Jvm.Cond.constantLong "NumberDressModel" (306 : Nat) (5 : Int64)) ∈ zT := zw_tb (zq_tables_1_7 _ (List.mem_of_getElem? (i := 76) rfl)) rfl
theorem zw_1626 : (Jvm.Cond.constant "NumberDressModel" (312 : Nat) (2958466 : Int32)) ∈ zT := zw_tb (zq_tables_1_7 _ (List.mem_of_getElem? (i := 77) rfl)) rfl
theorem zw_1627 : (Jvm.Cond.methodLink "NumberDressModel" (379 : Nat) ({ cls := "NumberDressModel", name := "findDate", desc := "()V" } : Jvm.MethodName)) ∈ zT := zw_tb (zq_tables_1_7 _ (List.mem_of_getElem? (i := 78) rfl)) rfl
theorem zw_1629 : (Jvm.Cond.instanceMethod ({ cls := "NumberDressModel", name := "findDate", desc := "()V" } : Jvm.MethodName)) ∈ zT := zw_tb (zq_tables_1_7 _ (List.mem_of_getElem? (i := 80) rfl)) rfl
theorem zw_1630 : (Jvm.Cond.code ({ cls := "NumberDressModel", name := "findDate", desc := "()V" } : Jvm.MethodName) prog_14_method_58_code (2 : Nat) (Option.none : Option Jvm.ClassFile.FieldType)) ∈ zT := zw_tb (zq_tables_1_7 _ (List.mem_of_getElem? (i := 81) rfl)) rfl
theorem zw_1631 : (Jvm.Cond.methodLink "NumberDressModel" (292 : Nat) ({ cls := "NumberDressModel", name := "isLeap", desc := "(I)Z" } : Jvm.MethodName)) ∈ zT := zw_tb (zq_tables_1_7 _ (List.mem_of_getElem? (i := 82) rfl)) rfl
theorem zw_1632 : (Jvm.Cond.static ({ cls := "NumberDressModel", name := "isLeap", desc := "(I)Z" } : Jvm.MethodName)) ∈ zT := zw_tb (zq_tables_1_7 _ (List.mem_of_getElem? (i := 83) rfl)) rfl
theorem zw_1633 : (Jvm.Cond.code ({ cls := "NumberDressModel", name := "isLeap", desc := "(I)Z" } : Jvm.MethodName) prog_14_method_54_code (1 : Nat) (Option.some Jvm.ClassFile.FieldType.boolean)) ∈ zT := zw_tb (zq_tables_1_7 _ (List.mem_of_getElem? (i := 84) rfl)) rfl
theorem zw_1634 : (Jvm.Cond.methodLink "NumberDressModel" (322 : Nat) ({ cls := "NumberDressModel", name := "daysIn", desc := "(II)I" } : Jvm.MethodName)) ∈ zT := zw_tb (zq_tables_1_7 _ (List.mem_of_getElem? (i := 85) rfl)) rfl
theorem zw_1635 : (Jvm.Cond.static ({ cls := "NumberDressModel", name := "daysIn", desc := "(II)I" } : Jvm.MethodName)) ∈ zT := zw_tb (zq_tables_1_7 _ (List.mem_of_getElem? (i := 86) rfl)) rfl
theorem zw_1636 : (Jvm.Cond.code ({ cls := "NumberDressModel", name := "daysIn", desc := "(II)I" } : Jvm.MethodName) prog_14_method_55_code (2 : Nat) (Option.some Jvm.ClassFile.FieldType.int)) ∈ zT := zw_tb (zq_tables_1_7 _ (List.mem_of_getElem? (i := 87) rfl)) rfl
theorem zw_1637 : (Jvm.Cond.constantLong "NumberDressModel" (382 : Nat) (43200 : Int64)) ∈ zT := zw_tb (zq_tables_1_7 _ (List.mem_of_getElem? (i := 88) rfl)) rfl
theorem zw_1638 : (Jvm.Cond.methodLink "NumberDressModel" (384 : Nat) ({ cls := "NumberDressModel", name := "rowOf", desc := "(IIZ)V" } : Jvm.MethodName)) ∈ zT := zw_tb (zq_tables_1_7 _ (List.mem_of_getElem? (i := 89) rfl)) rfl
theorem zw_1640 : (Jvm.Cond.instanceMethod ({ cls := "NumberDressModel", name := "rowOf", desc := "(IIZ)V" } : Jvm.MethodName)) ∈ zT := zw_tb (zq_tables_1_7 _ (List.mem_of_getElem? (i := 91) rfl)) rfl
theorem zw_1641 : (Jvm.Cond.code ({ cls := "NumberDressModel", name := "rowOf", desc := "(IIZ)V" } : Jvm.MethodName) prog_14_method_62_code (7 : Nat) (Option.none : Option Jvm.ClassFile.FieldType)) ∈ zT := zw_tb (zq_tables_1_7 _ (List.mem_of_getElem? (i := 92) rfl)) rfl
theorem zw_1642 : (Jvm.Cond.methodLink "NumberDressModel" (363 : Nat) ({ cls := "NumberDressModel", name := "monthName", desc := "(I)J" } : Jvm.MethodName)) ∈ zT := zw_tb (zq_tables_1_7 _ (List.mem_of_getElem? (i := 93) rfl)) rfl
theorem zw_1643 : (Jvm.Cond.static ({ cls := "NumberDressModel", name := "monthName", desc := "(I)J" } : Jvm.MethodName)) ∈ zT := zw_tb (zq_tables_1_7 _ (List.mem_of_getElem? (i := 94) rfl)) rfl
theorem zw_1644 : (Jvm.Cond.code ({ cls := "NumberDressModel", name := "monthName", desc := "(I)J" } : Jvm.MethodName) prog_14_method_59_code (1 : Nat) (Option.some Jvm.ClassFile.FieldType.long)) ∈ zT := zw_tb (zq_tables_1_7 _ (List.mem_of_getElem? (i := 95) rfl)) rfl
theorem zw_1645 : (Jvm.Cond.constantLong "NumberDressModel" (325 : Nat) (20936275320205945 : Int64)) ∈ zT := zw_tb (zq_tables_1_7 _ (List.mem_of_getElem? (i := 96) rfl)) rfl
theorem zw_1646 : (Jvm.Cond.constantLong "NumberDressModel" (327 : Nat) (5072568799037846137 : Int64)) ∈ zT := zw_tb (zq_tables_1_7 _ (List.mem_of_getElem? (i := 97) rfl)) rfl
theorem zw_1647 : (Jvm.Cond.constantLong "NumberDressModel" (329 : Nat) (332347368296 : Int64)) ∈ zT := zw_tb (zq_tables_1_7 _ (List.mem_of_getElem? (i := 98) rfl)) rfl
theorem zw_1648 : (Jvm.Cond.constantLong "NumberDressModel" (331 : Nat) (281059420524 : Int64)) ∈ zT := zw_tb (zq_tables_1_7 _ (List.mem_of_getElem? (i := 99) rfl)) rfl
theorem zw_1649 : (Jvm.Cond.constantLong "NumberDressModel" (333 : Nat) (5071225 : Int64)) ∈ zT := zw_tb (zq_tables_1_7 _ (List.mem_of_getElem? (i := 100) rfl)) rfl
theorem zw_1650 : (Jvm.Cond.constantLong "NumberDressModel" (335 : Nat) (1249209957 : Int64)) ∈ zT := zw_tb (zq_tables_1_7 _ (List.mem_of_getElem? (i := 101) rfl)) rfl
theorem zw_1651 : (Jvm.Cond.constantLong "NumberDressModel" (337 : Nat) (1249209465 : Int64)) ∈ zT := zw_tb (zq_tables_1_7 _ (List.mem_of_getElem? (i := 102) rfl)) rfl
theorem zw_1652 : (Jvm.Cond.constantLong "NumberDressModel" (339 : Nat) (71972502729588 : Int64)) ∈ zT := zw_tb (zq_tables_1_7 _ (List.mem_of_getElem? (i := 103) rfl)) rfl
theorem zw_1653 : (Jvm.Cond.constantLong "NumberDressModel" (341 : Nat) (6009332923015979621 : Int64)) ∈ zT := zw_tb (zq_tables_1_7 _ (List.mem_of_getElem? (i := 104) rfl)) rfl
theorem zw_1654 : (Jvm.Cond.constantLong "NumberDressModel" (343 : Nat) (22345874896217458 : Int64)) ∈ zT := zw_tb (zq_tables_1_7 _ (List.mem_of_getElem? (i := 105) rfl)) rfl
theorem zw_1655 : (Jvm.Cond.constantLong "NumberDressModel" (345 : Nat) (5651866235372201330 : Int64)) ∈ zT := zw_tb (zq_tables_1_7 _ (List.mem_of_getElem? (i := 106) rfl)) rfl
theorem zw_1656 : (Jvm.Cond.constantLong "NumberDressModel" (347 : Nat) (4928454654504887666 : Int64)) ∈ zT := zw_tb (zq_tables_1_7 _ (List.mem_of_getElem? (i := 107) rfl)) rfl
theorem zw_1657 : (Jvm.Cond.methodLink "NumberDressModel" (367 : Nat) ({ cls := "NumberDressModel", name := "name", desc := "(JII)V" } : Jvm.MethodName)) ∈ zT := zw_tb (zq_tables_1_7 _ (List.mem_of_getElem? (i := 108) rfl)) rfl
theorem zw_1659 : (Jvm.Cond.instanceMethod ({ cls := "NumberDressModel", name := "name", desc := "(JII)V" } : Jvm.MethodName)) ∈ zT := zw_tb (zq_tables_1_7 _ (List.mem_of_getElem? (i := 110) rfl)) rfl
theorem zw_1660 : (Jvm.Cond.code ({ cls := "NumberDressModel", name := "name", desc := "(JII)V" } : Jvm.MethodName) prog_14_method_61_code (8 : Nat) (Option.none : Option Jvm.ClassFile.FieldType)) ∈ zT := zw_tb (zq_tables_1_7 _ (List.mem_of_getElem? (i := 111) rfl)) rfl
theorem zw_1661 : (Jvm.Cond.methodLink "NumberDressModel" (371 : Nat) ({ cls := "NumberDressModel", name := "dayName", desc := "(I)J" } : Jvm.MethodName)) ∈ zT := zw_tb (zq_tables_1_7 _ (List.mem_of_getElem? (i := 112) rfl)) rfl
theorem zw_1662 : (Jvm.Cond.static ({ cls := "NumberDressModel", name := "dayName", desc := "(I)J" } : Jvm.MethodName)) ∈ zT := zw_tb (zq_tables_1_7 _ (List.mem_of_getElem? (i := 113) rfl)) rfl
theorem zw_1663 : (Jvm.Cond.code ({ cls := "NumberDressModel", name := "dayName", desc := "(I)J" } : Jvm.MethodName) prog_14_method_60_code (1 : Nat) (Option.some Jvm.ClassFile.FieldType.long)) ∈ zT := zw_tb (zq_tables_1_7 _ (List.mem_of_getElem? (i := 114) rfl)) rfl
theorem zw_1664 : (Jvm.Cond.constantLong "NumberDressModel" (349 : Nat) (91763828351353 : Int64)) ∈ zT := zw_tb (zq_tables_1_7 _ (List.mem_of_getElem? (i := 115) rfl)) rfl
theorem zw_1665 : (Jvm.Cond.constantLong "NumberDressModel" (351 : Nat) (85140988780921 : Int64)) ∈ zT := zw_tb (zq_tables_1_7 _ (List.mem_of_getElem? (i := 116) rfl)) rfl
theorem zw_1666 : (Jvm.Cond.constantLong "NumberDressModel" (353 : Nat) (23772976631800185 : Int64)) ∈ zT := zw_tb (zq_tables_1_7 _ (List.mem_of_getElem? (i := 117) rfl)) rfl
theorem zw_1667 : (Jvm.Cond.constantLong "NumberDressModel" (355 : Nat) (6297550079258748001 : Int64)) ∈ zT := zw_tb (zq_tables_1_7 _ (List.mem_of_getElem? (i := 118) rfl)) rfl
theorem zw_1668 : (Jvm.Cond.constantLong "NumberDressModel" (357 : Nat) (6082240431186534777 : Int64)) ∈ zT := zw_tb (zq_tables_1_7 _ (List.mem_of_getElem? (i := 119) rfl)) rfl
theorem zw_1669 : (Jvm.Cond.constantLong "NumberDressModel" (359 : Nat) (77457208402297 : Int64)) ∈ zT := zw_tb (zq_tables_1_7 _ (List.mem_of_getElem? (i := 120) rfl)) rfl
theorem zw_1670 : (Jvm.Cond.constantLong "NumberDressModel" (361 : Nat) (6008211425668129145 : Int64)) ∈ zT := zw_tb (zq_tables_1_7 _ (List.mem_of_getElem? (i := 121) rfl)) rfl
theorem zw_1671 : (Jvm.Cond.constantLong "NumberDressModel" (374 : Nat) (12 : Int64)) ∈ zT := zw_tb (zq_tables_1_7 _ (List.mem_of_getElem? (i := 122) rfl)) rfl
theorem zw_1672 : (Jvm.Cond.constantLong "NumberDressModel" (388 : Nat) (3600 : Int64)) ∈ zT := zw_tb (zq_tables_1_7 _ (List.mem_of_getElem? (i := 123) rfl)) rfl
theorem zw_1673 : (Jvm.Cond.constantLong "NumberDressModel" (390 : Nat) (60 : Int64)) ∈ zT := zw_tb (zq_tables_1_7 _ (List.mem_of_getElem? (i := 124) rfl)) rfl
theorem zw_1674 : (Jvm.Cond.methodLink "NumberDressModel" (411 : Nat) ({ cls := "NumberDressModel", name := "literals", desc := "(I)V" } : Jvm.MethodName)) ∈ zT := zw_tb (zq_tables_1_7 _ (List.mem_of_getElem? (i := 125) rfl)) rfl
theorem zw_1676 : (Jvm.Cond.instanceMethod ({ cls := "NumberDressModel", name := "literals", desc := "(I)V" } : Jvm.MethodName)) ∈ zT := zw_tb (zq_tables_1_7 _ (List.mem_of_getElem? (i := 127) rfl)) rfl
theorem zw_1677 : (Jvm.Cond.code ({ cls := "NumberDressModel", name := "literals", desc := "(I)V" } : Jvm.MethodName) prog_14_method_65_code (4 : Nat) (Option.none : Option Jvm.ClassFile.FieldType)) ∈ zT := zw_tb (zq_tables_1_7 _ (List.mem_of_getElem? (i := 128) rfl)) rfl
theorem zw_1678 : (Jvm.Cond.methodLink "NumberDressLaw" (58 : Nat) ({ cls := "NumberDressModel", name := "at", desc := "(I)I" } : Jvm.MethodName)) ∈ zT := zw_tb (zq_tables_1_7 _ (List.mem_of_getElem? (i := 129) rfl)) rfl
theorem zw_1679 : (Jvm.Cond.instanceMethod ({ cls := "NumberDressModel", name := "at", desc := "(I)I" } : Jvm.MethodName)) ∈ zT := zw_tb (zq_tables_1_7 _ (List.mem_of_getElem? (i := 130) rfl)) rfl
theorem zw_1680 : (Jvm.Cond.selects "NumberDressModel" ({ cls := "NumberDressModel", name := "at", desc := "(I)I" } : Jvm.MethodName) ({ cls := "NumberDressModel", name := "at", desc := "(I)I" } : Jvm.MethodName)) ∈ zT := zw_tb (zq_tables_1_7 _ (List.mem_of_getElem? (i := 131) rfl)) rfl
theorem zw_1681 : (Jvm.Cond.code ({ cls := "NumberDressModel", name := "at", desc := "(I)I" } : Jvm.MethodName) prog_14_method_68_code (2 : Nat) (Option.some Jvm.ClassFile.FieldType.int)) ∈ zT := zw_tb (zq_tables_1_7 _ (List.mem_of_getElem? (i := 132) rfl)) rfl
theorem zw_1682 : (Jvm.Cond.methodLink "NumberDressLaw" (61 : Nat) ({ cls := "NumberDressModel", name := "about", desc := "(I)I" } : Jvm.MethodName)) ∈ zT := zw_tb (zq_tables_1_7 _ (List.mem_of_getElem? (i := 133) rfl)) rfl
theorem zw_1683 : (Jvm.Cond.instanceMethod ({ cls := "NumberDressModel", name := "about", desc := "(I)I" } : Jvm.MethodName)) ∈ zT := zw_tb (zq_tables_1_7 _ (List.mem_of_getElem? (i := 134) rfl)) rfl
theorem zw_1684 : (Jvm.Cond.selects "NumberDressModel" ({ cls := "NumberDressModel", name := "about", desc := "(I)I" } : Jvm.MethodName) ({ cls := "NumberDressModel", name := "about", desc := "(I)I" } : Jvm.MethodName)) ∈ zT := zw_tb (zq_tables_1_7 _ (List.mem_of_getElem? (i := 135) rfl)) rfl
theorem zw_1685 : (Jvm.Cond.code ({ cls := "NumberDressModel", name := "about", desc := "(I)I" } : Jvm.MethodName) prog_14_method_69_code (2 : Nat) (Option.some Jvm.ClassFile.FieldType.int)) ∈ zT := zw_tb (zq_tables_1_7 _ (List.mem_of_getElem? (i := 136) rfl)) rfl
theorem zw_1686 : (Jvm.Cond.arrayClass Jvm.ClassFile.FieldType.long) ∈ zT := zw_tb (zq_tables_1_7 _ (List.mem_of_getElem? (i := 137) rfl)) rfl
theorem zw_1688 : (Jvm.Cond.fieldLink "java/lang/String" (9 : Nat) "java/lang/String" "value" "[B") ∈ zT := zw_tb (zq_tables_1_7 _ (List.mem_of_getElem? (i := 139) rfl)) rfl
theorem zw_1689 : (Jvm.Cond.fieldLink "java/lang/String" (15 : Nat) "java/lang/String" "coder" "B") ∈ zT := zw_tb (zq_tables_1_7 _ (List.mem_of_getElem? (i := 140) rfl)) rfl
