/-! classes and their fields -/
def R_Bytes : String := "DocumentBytes$Bytes"
def R_Kinds : String := "DocumentBytes$Kinds"
def R_Utf8 : String := "DocumentBytes$Utf8"
def R_Nodes : String := "DocumentBytes$Nodes"
def R_Reader : String := "DocumentBytes$Reader"
def R_Doc : String := "DocumentBytes"
def R_Model : String := "DocumentBytesModel"
def R_Law : String := "DocumentBytesLaw"
def R_Arrays : String := "java/util/Arrays"
def R_Math : String := "java/lang/Math"
def T_Bytes : u_T := fun k => match k with
  | 0 => ("DocumentBytes$Bytes", "most", "I", true)
  | 1 => ("DocumentBytes$Bytes", "row", "[B", false)
  | _ => ("DocumentBytes$Bytes", "size", "I", false)
def ty_Bytes : Nat → FieldType := fun k => match k with
  | 0 => .int
  | 1 => .array .byte
  | _ => .int
theorem nm_Bytes : ∀ a, a < 3 → ∀ b, b < 3 → a ≠ b → (T_Bytes a).2.1 ≠ (T_Bytes b).2.1 := by decide +kernel
theorem ty_Bytes_ok : ∀ k, k < 3 → parseFieldDescriptor (T_Bytes k).2.2.1 = some (ty_Bytes k) := by decide +kernel
theorem in_Bytes : ∀ w ∈ u_ws R_Bytes T_Bytes 3, w ∈ wA := by
  intro w hw
  obtain ⟨k, hk, rfl⟩ := List.mem_map.mp hw
  have hk := List.mem_range.mp hk
  rcases (show k = 0 ∨ k = 1 ∨ k = 2 by omega) with rfl | rfl | rfl
  · exact m_78
  · exact m_80
  · exact m_82
def T_Nodes : u_T := fun k => match k with
  | 0 => ("DocumentBytes$Nodes", "kinds", "[I", true)
  | 1 => ("DocumentBytes$Nodes", "parents", "[I", true)
  | 2 => ("DocumentBytes$Nodes", "depths", "[I", true)
  | 3 => ("DocumentBytes$Nodes", "names", "[I", true)
  | 4 => ("DocumentBytes$Nodes", "values", "[I", true)
  | 5 => ("DocumentBytes$Nodes", "valueLengths", "[I", true)
  | 6 => ("DocumentBytes$Nodes", "elementCounts", "[I", true)
  | 7 => ("DocumentBytes$Nodes", "document", "LDocumentBytes$Bytes;", false)
  | _ => ("DocumentBytes$Nodes", "count", "I", false)
def ty_Nodes : Nat → FieldType := fun k => match k with
  | 0 => .array .int
  | 1 => .array .int
  | 2 => .array .int
  | 3 => .array .int
  | 4 => .array .int
  | 5 => .array .int
  | 6 => .array .int
  | 7 => .object "DocumentBytes$Bytes"
  | _ => .int
theorem nm_Nodes : ∀ a, a < 9 → ∀ b, b < 9 → a ≠ b → (T_Nodes a).2.1 ≠ (T_Nodes b).2.1 := by decide +kernel
theorem ty_Nodes_ok : ∀ k, k < 9 → parseFieldDescriptor (T_Nodes k).2.2.1 = some (ty_Nodes k) := by decide +kernel
theorem in_Nodes : ∀ w ∈ u_ws R_Nodes T_Nodes 9, w ∈ wA := by
  intro w hw
  obtain ⟨k, hk, rfl⟩ := List.mem_map.mp hw
  have hk := List.mem_range.mp hk
  rcases (show k = 0 ∨ k = 1 ∨ k = 2 ∨ k = 3 ∨ k = 4 ∨ k = 5 ∨ k = 6 ∨ k = 7 ∨ k = 8 by omega) with rfl | rfl | rfl | rfl | rfl | rfl | rfl | rfl | rfl
  · exact m_140
  · exact m_142
  · exact m_144
  · exact m_146
  · exact m_148
  · exact m_150
  · exact m_152
  · exact m_154
  · exact m_156
def T_Reader : u_T := fun k => match k with
  | 0 => ("DocumentBytes$Reader", "nodes", "LDocumentBytes$Nodes;", true)
  | 1 => ("DocumentBytes$Reader", "bytes", "LDocumentBytes$Bytes;", true)
  | 2 => ("DocumentBytes$Reader", "at", "I", false)
  | 3 => ("DocumentBytes$Reader", "inside", "I", false)
  | 4 => ("DocumentBytes$Reader", "fault", "I", false)
  | _ => ("DocumentBytes$Reader", "faultPlace", "I", false)
def ty_Reader : Nat → FieldType := fun k => match k with
  | 0 => .object "DocumentBytes$Nodes"
  | 1 => .object "DocumentBytes$Bytes"
  | 2 => .int
  | 3 => .int
  | 4 => .int
  | _ => .int
theorem nm_Reader : ∀ a, a < 6 → ∀ b, b < 6 → a ≠ b → (T_Reader a).2.1 ≠ (T_Reader b).2.1 := by decide +kernel
theorem ty_Reader_ok : ∀ k, k < 6 → parseFieldDescriptor (T_Reader k).2.2.1 = some (ty_Reader k) := by decide +kernel
theorem in_Reader : ∀ w ∈ u_ws R_Reader T_Reader 6, w ∈ wA := by
  intro w hw
  obtain ⟨k, hk, rfl⟩ := List.mem_map.mp hw
  have hk := List.mem_range.mp hk
  rcases (show k = 0 ∨ k = 1 ∨ k = 2 ∨ k = 3 ∨ k = 4 ∨ k = 5 by omega) with rfl | rfl | rfl | rfl | rfl | rfl
  · exact m_172
  · exact m_174
  · exact m_176
  · exact m_178
  · exact m_180
  · exact m_182
def T_Doc : u_T := fun k => match k with
  | 0 => ("DocumentBytes", "tape", "LDocumentBytes$Bytes;", true)
  | 1 => ("DocumentBytes", "slots", "[LDocumentBytes$Bytes;", true)
  | 2 => ("DocumentBytes", "fresh", "LDocumentBytes$Bytes;", true)
  | 3 => ("DocumentBytes", "nodes", "LDocumentBytes$Nodes;", true)
  | 4 => ("DocumentBytes", "reader", "LDocumentBytes$Reader;", true)
  | 5 => ("DocumentBytes", "scanned", "I", false)
  | _ => ("DocumentBytes", "faultPlace", "I", false)
def ty_Doc : Nat → FieldType := fun k => match k with
  | 0 => .object "DocumentBytes$Bytes"
  | 1 => .array (.object "DocumentBytes$Bytes")
  | 2 => .object "DocumentBytes$Bytes"
  | 3 => .object "DocumentBytes$Nodes"
  | 4 => .object "DocumentBytes$Reader"
  | 5 => .int
  | _ => .int
theorem nm_Doc : ∀ a, a < 7 → ∀ b, b < 7 → a ≠ b → (T_Doc a).2.1 ≠ (T_Doc b).2.1 := by decide +kernel
theorem ty_Doc_ok : ∀ k, k < 7 → parseFieldDescriptor (T_Doc k).2.2.1 = some (ty_Doc k) := by decide +kernel
theorem in_Doc : ∀ w ∈ u_ws R_Doc T_Doc 7, w ∈ wA := by
  intro w hw
  obtain ⟨k, hk, rfl⟩ := List.mem_map.mp hw
  have hk := List.mem_range.mp hk
  rcases (show k = 0 ∨ k = 1 ∨ k = 2 ∨ k = 3 ∨ k = 4 ∨ k = 5 ∨ k = 6 by omega) with rfl | rfl | rfl | rfl | rfl | rfl | rfl
  · exact m_192
  · exact m_194
  · exact m_196
  · exact m_198
  · exact m_200
  · exact m_202
  · exact m_204
def T_Model : u_T := fun k => match k with
  | 0 => ("DocumentBytesModel", "thrown", "I", false)
  | 1 => ("DocumentBytesModel", "tape", "[I", true)
  | 2 => ("DocumentBytesModel", "taped", "I", false)
  | 3 => ("DocumentBytesModel", "place", "I", false)
  | 4 => ("DocumentBytesModel", "size", "[I", true)
  | 5 => ("DocumentBytesModel", "bytes", "[I", true)
  | 6 => ("DocumentBytesModel", "work", "[I", true)
  | 7 => ("DocumentBytesModel", "worked", "I", false)
  | 8 => ("DocumentBytesModel", "nodes", "I", false)
  | 9 => ("DocumentBytesModel", "parent", "[I", true)
  | 10 => ("DocumentBytesModel", "begin", "[I", true)
  | 11 => ("DocumentBytesModel", "nameEnd", "[I", true)
  | 12 => ("DocumentBytesModel", "end", "[I", true)
  | 13 => ("DocumentBytesModel", "depth", "[I", true)
  | 14 => ("DocumentBytesModel", "deepest", "I", false)
  | 15 => ("DocumentBytesModel", "fault", "I", false)
  | 16 => ("DocumentBytesModel", "lenient", "Z", false)
  | 17 => ("DocumentBytesModel", "ends", "[I", true)
  | 18 => ("DocumentBytesModel", "box", "[I", true)
  | 19 => ("DocumentBytesModel", "many", "[I", true)
  | 20 => ("DocumentBytesModel", "row", "[I", true)
  | 21 => ("DocumentBytesModel", "part", "[I", true)
  | _ => ("DocumentBytesModel", "parts", "I", false)
def ty_Model : Nat → FieldType := fun k => match k with
  | 0 => .int
  | 1 => .array .int
  | 2 => .int
  | 3 => .int
  | 4 => .array .int
  | 5 => .array .int
  | 6 => .array .int
  | 7 => .int
  | 8 => .int
  | 9 => .array .int
  | 10 => .array .int
  | 11 => .array .int
  | 12 => .array .int
  | 13 => .array .int
  | 14 => .int
  | 15 => .int
  | 16 => .boolean
  | 17 => .array .int
  | 18 => .array .int
  | 19 => .array .int
  | 20 => .array .int
  | 21 => .array .int
  | _ => .int
theorem nm_Model : ∀ a, a < 23 → ∀ b, b < 23 → a ≠ b → (T_Model a).2.1 ≠ (T_Model b).2.1 := by decide +kernel
theorem ty_Model_ok : ∀ k, k < 23 → parseFieldDescriptor (T_Model k).2.2.1 = some (ty_Model k) := by decide +kernel
theorem in_Model : ∀ w ∈ u_ws R_Model T_Model 23, w ∈ wA := by
  intro w hw
  obtain ⟨k, hk, rfl⟩ := List.mem_map.mp hw
  have hk := List.mem_range.mp hk
  rcases (show k = 0 ∨ k = 1 ∨ k = 2 ∨ k = 3 ∨ k = 4 ∨ k = 5 ∨ k = 6 ∨ k = 7 ∨ k = 8 ∨ k = 9 ∨ k = 10 ∨ k = 11 ∨ k = 12 ∨ k = 13 ∨ k = 14 ∨ k = 15 ∨ k = 16 ∨ k = 17 ∨ k = 18 ∨ k = 19 ∨ k = 20 ∨ k = 21 ∨ k = 22 by omega) with rfl | rfl | rfl | rfl | rfl | rfl | rfl | rfl | rfl | rfl | rfl | rfl | rfl | rfl | rfl | rfl | rfl | rfl | rfl | rfl | rfl | rfl | rfl
  · exact m_568
  · exact m_570
  · exact m_572
  · exact m_574
  · exact m_576
  · exact m_578
  · exact m_580
  · exact m_582
  · exact m_584
  · exact m_586
  · exact m_588
  · exact m_590
  · exact m_592
  · exact m_594
  · exact m_596
  · exact m_598
  · exact m_600
  · exact m_602
  · exact m_604
  · exact m_606
  · exact m_608
  · exact m_610
  · exact m_612
abbrev vwCl : List vw_C := [(R_Bytes, T_Bytes, 3), (R_Nodes, T_Nodes, 9), (R_Reader, T_Reader, 6), (R_Doc, T_Doc, 7), (R_Model, T_Model, 23)]
abbrev b_Doc_init : ByteArray := prog_1_method_1_code
abbrev y_Doc_init : MethodName := { cls := "DocumentBytes", name := "<init>", desc := "()V" }
abbrev w_Doc_init : List Cond := Cond.code y_Doc_init b_Doc_init 2 (Option.none : Option Jvm.ClassFile.FieldType) :: wA
abbrev b_Bytes_init : ByteArray := prog_2_method_1_code
abbrev y_Bytes_init : MethodName := { cls := "DocumentBytes$Bytes", name := "<init>", desc := "(I)V" }
abbrev w_Bytes_init : List Cond := Cond.code y_Bytes_init b_Bytes_init 2 (Option.none : Option Jvm.ClassFile.FieldType) :: wA
abbrev b_Bytes_appendEmptyDocument : ByteArray := prog_2_method_20_code
abbrev y_Bytes_appendEmptyDocument : MethodName := { cls := "DocumentBytes$Bytes", name := "appendEmptyDocument", desc := "()V" }
abbrev w_Bytes_appendEmptyDocument : List Cond := Cond.code y_Bytes_appendEmptyDocument b_Bytes_appendEmptyDocument 1 (Option.none : Option Jvm.ClassFile.FieldType) :: wA
abbrev b_Bytes_appendNumber : ByteArray := prog_2_method_18_code
abbrev y_Bytes_appendNumber : MethodName := { cls := "DocumentBytes$Bytes", name := "appendNumber", desc := "(JI)V" }
abbrev w_Bytes_appendNumber : List Cond := Cond.code y_Bytes_appendNumber b_Bytes_appendNumber 5 (Option.none : Option Jvm.ClassFile.FieldType) :: wA
abbrev b_Bytes_openGap : ByteArray := prog_2_method_14_code
abbrev y_Bytes_openGap : MethodName := { cls := "DocumentBytes$Bytes", name := "openGap", desc := "(II)V" }
abbrev w_Bytes_openGap : List Cond := Cond.code y_Bytes_openGap b_Bytes_openGap 3 (Option.none : Option Jvm.ClassFile.FieldType) :: wA
abbrev b_Arrays_copyOf : ByteArray := prog_12_method_121_code
abbrev y_Arrays_copyOf : MethodName := { cls := "java/util/Arrays", name := "copyOf", desc := "([BI)[B" }
abbrev w_Arrays_copyOf : List Cond := Cond.code y_Arrays_copyOf b_Arrays_copyOf 3 (Option.some (Jvm.ClassFile.FieldType.array Jvm.ClassFile.FieldType.byte)) :: wA
abbrev b_Math_min : ByteArray := prog_10_method_69_code
abbrev y_Math_min : MethodName := { cls := "java/lang/Math", name := "min", desc := "(II)I" }
abbrev w_Math_min : List Cond := Cond.code y_Math_min b_Math_min 2 (Option.some Jvm.ClassFile.FieldType.int) :: wA
abbrev b_Bytes_putNumber : ByteArray := prog_2_method_9_code
abbrev y_Bytes_putNumber : MethodName := { cls := "DocumentBytes$Bytes", name := "putNumber", desc := "(IIJ)V" }
abbrev w_Bytes_putNumber : List Cond := Cond.code y_Bytes_putNumber b_Bytes_putNumber 6 (Option.none : Option Jvm.ClassFile.FieldType) :: wA
abbrev b_Bytes_put : ByteArray := prog_2_method_6_code
abbrev y_Bytes_put : MethodName := { cls := "DocumentBytes$Bytes", name := "put", desc := "(II)V" }
abbrev w_Bytes_put : List Cond := Cond.code y_Bytes_put b_Bytes_put 3 (Option.none : Option Jvm.ClassFile.FieldType) :: wA
abbrev b_Nodes_init : ByteArray := prog_4_method_1_code
abbrev y_Nodes_init : MethodName := { cls := "DocumentBytes$Nodes", name := "<init>", desc := "(LDocumentBytes$Bytes;)V" }
abbrev w_Nodes_init : List Cond := Cond.code y_Nodes_init b_Nodes_init 2 (Option.none : Option Jvm.ClassFile.FieldType) :: wA
abbrev b_Reader_init : ByteArray := prog_5_method_1_code
abbrev y_Reader_init : MethodName := { cls := "DocumentBytes$Reader", name := "<init>", desc := "(LDocumentBytes$Nodes;LDocumentBytes$Bytes;)V" }
abbrev w_Reader_init : List Cond := Cond.code y_Reader_init b_Reader_init 3 (Option.none : Option Jvm.ClassFile.FieldType) :: wA
abbrev b_Doc_feed : ByteArray := prog_1_method_2_code
abbrev y_Doc_feed : MethodName := { cls := "DocumentBytes", name := "feed", desc := "(IIIII)I" }
abbrev w_Doc_feed : List Cond := Cond.code y_Doc_feed b_Doc_feed 6 (Option.some Jvm.ClassFile.FieldType.int) :: wA
abbrev b_Bytes_size : ByteArray := prog_2_method_2_code
abbrev y_Bytes_size : MethodName := { cls := "DocumentBytes$Bytes", name := "size", desc := "()I" }
abbrev w_Bytes_size : List Cond := Cond.code y_Bytes_size b_Bytes_size 1 (Option.some Jvm.ClassFile.FieldType.int) :: wA
abbrev b_Bytes_appendHighestFirst : ByteArray := prog_2_method_19_code
abbrev y_Bytes_appendHighestFirst : MethodName := { cls := "DocumentBytes$Bytes", name := "appendHighestFirst", desc := "(I)V" }
abbrev w_Bytes_appendHighestFirst : List Cond := Cond.code y_Bytes_appendHighestFirst b_Bytes_appendHighestFirst 4 (Option.none : Option Jvm.ClassFile.FieldType) :: wA
abbrev b_Doc_read : ByteArray := prog_1_method_3_code
abbrev y_Doc_read : MethodName := { cls := "DocumentBytes", name := "read", desc := "(II)I" }
abbrev w_Doc_read : List Cond := Cond.code y_Doc_read b_Doc_read 4 (Option.some Jvm.ClassFile.FieldType.int) :: wA
abbrev b_Doc_isSlot : ByteArray := prog_1_method_15_code
abbrev y_Doc_isSlot : MethodName := { cls := "DocumentBytes", name := "isSlot", desc := "(I)Z" }
abbrev w_Doc_isSlot : List Cond := Cond.code y_Doc_isSlot b_Doc_isSlot 1 (Option.some Jvm.ClassFile.FieldType.boolean) :: wA
abbrev b_Bytes_has : ByteArray := prog_2_method_4_code
abbrev y_Bytes_has : MethodName := { cls := "DocumentBytes$Bytes", name := "has", desc := "(II)Z" }
abbrev w_Bytes_has : List Cond := Cond.code y_Bytes_has b_Bytes_has 3 (Option.some Jvm.ClassFile.FieldType.boolean) :: wA
abbrev b_Reader_readAll : ByteArray := prog_5_method_3_code
abbrev y_Reader_readAll : MethodName := { cls := "DocumentBytes$Reader", name := "readAll", desc := "(I)I" }
abbrev w_Reader_readAll : List Cond := Cond.code y_Reader_readAll b_Reader_readAll 4 (Option.some Jvm.ClassFile.FieldType.int) :: wA
abbrev b_Nodes_begin : ByteArray := prog_4_method_2_code
abbrev y_Nodes_begin : MethodName := { cls := "DocumentBytes$Nodes", name := "begin", desc := "(LDocumentBytes$Bytes;)V" }
abbrev w_Nodes_begin : List Cond := Cond.code y_Nodes_begin b_Nodes_begin 2 (Option.none : Option Jvm.ClassFile.FieldType) :: wA
abbrev b_Reader_readSize : ByteArray := prog_5_method_8_code
abbrev y_Reader_readSize : MethodName := { cls := "DocumentBytes$Reader", name := "readSize", desc := "(III)V" }
abbrev w_Reader_readSize : List Cond := Cond.code y_Reader_readSize b_Reader_readSize 7 (Option.none : Option Jvm.ClassFile.FieldType) :: wA
abbrev b_Reader_refuse : ByteArray := prog_5_method_4_code
abbrev y_Reader_refuse : MethodName := { cls := "DocumentBytes$Reader", name := "refuse", desc := "(II)V" }
abbrev w_Reader_refuse : List Cond := Cond.code y_Reader_refuse b_Reader_refuse 3 (Option.none : Option Jvm.ClassFile.FieldType) :: wA
abbrev b_Bytes_numberAt : ByteArray := prog_2_method_8_code
abbrev y_Bytes_numberAt : MethodName := { cls := "DocumentBytes$Bytes", name := "numberAt", desc := "(II)J" }
abbrev w_Bytes_numberAt : List Cond := Cond.code y_Bytes_numberAt b_Bytes_numberAt 6 (Option.some Jvm.ClassFile.FieldType.long) :: wA
abbrev b_Bytes_get : ByteArray := prog_2_method_5_code
abbrev y_Bytes_get : MethodName := { cls := "DocumentBytes$Bytes", name := "get", desc := "(I)I" }
abbrev w_Bytes_get : List Cond := Cond.code y_Bytes_get b_Bytes_get 2 (Option.some Jvm.ClassFile.FieldType.int) :: wA
abbrev b_Nodes_depth : ByteArray := prog_4_method_9_code
abbrev y_Nodes_depth : MethodName := { cls := "DocumentBytes$Nodes", name := "depth", desc := "(I)I" }
abbrev w_Nodes_depth : List Cond := Cond.code y_Nodes_depth b_Nodes_depth 2 (Option.some Jvm.ClassFile.FieldType.int) :: wA
abbrev b_Nodes_cell : ByteArray := prog_4_method_6_code
abbrev y_Nodes_cell : MethodName := { cls := "DocumentBytes$Nodes", name := "cell", desc := "([II)I" }
abbrev w_Nodes_cell : List Cond := Cond.code y_Nodes_cell b_Nodes_cell 3 (Option.some Jvm.ClassFile.FieldType.int) :: wA
abbrev b_Nodes_append : ByteArray := prog_4_method_3_code
abbrev y_Nodes_append : MethodName := { cls := "DocumentBytes$Nodes", name := "append", desc := "(IIIII)I" }
abbrev w_Nodes_append : List Cond := Cond.code y_Nodes_append b_Nodes_append 7 (Option.some Jvm.ClassFile.FieldType.int) :: wA
abbrev b_Kinds_holdsElements : ByteArray := prog_3_method_3_code
abbrev y_Kinds_holdsElements : MethodName := { cls := "DocumentBytes$Kinds", name := "holdsElements", desc := "(I)Z" }
abbrev w_Kinds_holdsElements : List Cond := Cond.code y_Kinds_holdsElements b_Kinds_holdsElements 1 (Option.some Jvm.ClassFile.FieldType.boolean) :: wA
abbrev b_Nodes_lastByte : ByteArray := prog_4_method_16_code
abbrev y_Nodes_lastByte : MethodName := { cls := "DocumentBytes$Nodes", name := "lastByte", desc := "(I)I" }
abbrev w_Nodes_lastByte : List Cond := Cond.code y_Nodes_lastByte b_Nodes_lastByte 2 (Option.some Jvm.ClassFile.FieldType.int) :: wA
abbrev b_Reader_readLastByte : ByteArray := prog_5_method_5_code
abbrev y_Reader_readLastByte : MethodName := { cls := "DocumentBytes$Reader", name := "readLastByte", desc := "()V" }
abbrev w_Reader_readLastByte : List Cond := Cond.code y_Reader_readLastByte b_Reader_readLastByte 1 (Option.none : Option Jvm.ClassFile.FieldType) :: wA
abbrev b_Nodes_parent : ByteArray := prog_4_method_8_code
abbrev y_Nodes_parent : MethodName := { cls := "DocumentBytes$Nodes", name := "parent", desc := "(I)I" }
abbrev w_Nodes_parent : List Cond := Cond.code y_Nodes_parent b_Nodes_parent 2 (Option.some Jvm.ClassFile.FieldType.int) :: wA
abbrev b_Reader_readElement : ByteArray := prog_5_method_6_code
abbrev y_Reader_readElement : MethodName := { cls := "DocumentBytes$Reader", name := "readElement", desc := "(I)V" }
abbrev w_Reader_readElement : List Cond := Cond.code y_Reader_readElement b_Reader_readElement 5 (Option.none : Option Jvm.ClassFile.FieldType) :: wA
abbrev b_Kinds_isKind : ByteArray := prog_3_method_2_code
abbrev y_Kinds_isKind : MethodName := { cls := "DocumentBytes$Kinds", name := "isKind", desc := "(I)Z" }
abbrev w_Kinds_isKind : List Cond := Cond.code y_Kinds_isKind b_Kinds_isKind 1 (Option.some Jvm.ClassFile.FieldType.boolean) :: wA
abbrev b_Kinds_width : ByteArray := prog_3_method_4_code
abbrev y_Kinds_width : MethodName := { cls := "DocumentBytes$Kinds", name := "width", desc := "(I)I" }
abbrev w_Kinds_width : List Cond := Cond.code y_Kinds_width b_Kinds_width 1 (Option.some Jvm.ClassFile.FieldType.int) :: wA
abbrev b_Reader_readName : ByteArray := prog_5_method_7_code
abbrev y_Reader_readName : MethodName := { cls := "DocumentBytes$Reader", name := "readName", desc := "(I)V" }
abbrev w_Reader_readName : List Cond := Cond.code y_Reader_readName b_Reader_readName 5 (Option.none : Option Jvm.ClassFile.FieldType) :: wA
abbrev b_Bytes_firstZero : ByteArray := prog_2_method_7_code
abbrev y_Bytes_firstZero : MethodName := { cls := "DocumentBytes$Bytes", name := "firstZero", desc := "(II)I" }
abbrev w_Bytes_firstZero : List Cond := Cond.code y_Bytes_firstZero b_Bytes_firstZero 4 (Option.some Jvm.ClassFile.FieldType.int) :: wA
abbrev b_Utf8_firstWrong : ByteArray := prog_6_method_2_code
abbrev y_Utf8_firstWrong : MethodName := { cls := "DocumentBytes$Utf8", name := "firstWrong", desc := "(LDocumentBytes$Bytes;II)I" }
abbrev w_Utf8_firstWrong : List Cond := Cond.code y_Utf8_firstWrong b_Utf8_firstWrong 6 (Option.some Jvm.ClassFile.FieldType.int) :: wA
abbrev b_Utf8_lengthBehind : ByteArray := prog_6_method_3_code
abbrev y_Utf8_lengthBehind : MethodName := { cls := "DocumentBytes$Utf8", name := "lengthBehind", desc := "(I)I" }
abbrev w_Utf8_lengthBehind : List Cond := Cond.code y_Utf8_lengthBehind b_Utf8_lengthBehind 1 (Option.some Jvm.ClassFile.FieldType.int) :: wA
abbrev b_Utf8_isRight : ByteArray := prog_6_method_4_code
abbrev y_Utf8_isRight : MethodName := { cls := "DocumentBytes$Utf8", name := "isRight", desc := "(LDocumentBytes$Bytes;II)Z" }
abbrev w_Utf8_isRight : List Cond := Cond.code y_Utf8_isRight b_Utf8_isRight 8 (Option.some Jvm.ClassFile.FieldType.boolean) :: wA
abbrev b_Nodes_kind : ByteArray := prog_4_method_7_code
abbrev y_Nodes_kind : MethodName := { cls := "DocumentBytes$Nodes", name := "kind", desc := "(I)I" }
abbrev w_Nodes_kind : List Cond := Cond.code y_Nodes_kind b_Nodes_kind 2 (Option.some Jvm.ClassFile.FieldType.int) :: wA
abbrev b_Nodes_elements : ByteArray := prog_4_method_15_code
abbrev y_Nodes_elements : MethodName := { cls := "DocumentBytes$Nodes", name := "elements", desc := "(I)I" }
abbrev w_Nodes_elements : List Cond := Cond.code y_Nodes_elements b_Nodes_elements 2 (Option.some Jvm.ClassFile.FieldType.int) :: wA
abbrev b_Bytes_hasDecimal : ByteArray := prog_2_method_12_code
abbrev y_Bytes_hasDecimal : MethodName := { cls := "DocumentBytes$Bytes", name := "hasDecimal", desc := "(III)Z" }
abbrev w_Bytes_hasDecimal : List Cond := Cond.code y_Bytes_hasDecimal b_Bytes_hasDecimal 6 (Option.some Jvm.ClassFile.FieldType.boolean) :: wA
abbrev b_Bytes_digits : ByteArray := prog_2_method_10_code
abbrev y_Bytes_digits : MethodName := { cls := "DocumentBytes$Bytes", name := "digits", desc := "(I)I" }
abbrev w_Bytes_digits : List Cond := Cond.code y_Bytes_digits b_Bytes_digits 1 (Option.some Jvm.ClassFile.FieldType.int) :: wA
abbrev b_Nodes_named : ByteArray := prog_4_method_21_code
abbrev y_Nodes_named : MethodName := { cls := "DocumentBytes$Nodes", name := "named", desc := "(ILDocumentBytes$Bytes;II)I" }
abbrev w_Nodes_named : List Cond := Cond.code y_Nodes_named b_Nodes_named 6 (Option.some Jvm.ClassFile.FieldType.int) :: wA
abbrev b_Nodes_nameLength : ByteArray := prog_4_method_11_code
abbrev y_Nodes_nameLength : MethodName := { cls := "DocumentBytes$Nodes", name := "nameLength", desc := "(I)I" }
abbrev w_Nodes_nameLength : List Cond := Cond.code y_Nodes_nameLength b_Nodes_nameLength 2 (Option.some Jvm.ClassFile.FieldType.int) :: wA
abbrev b_Nodes_name : ByteArray := prog_4_method_10_code
abbrev y_Nodes_name : MethodName := { cls := "DocumentBytes$Nodes", name := "name", desc := "(I)I" }
abbrev w_Nodes_name : List Cond := Cond.code y_Nodes_name b_Nodes_name 2 (Option.some Jvm.ClassFile.FieldType.int) :: wA
abbrev b_Bytes_equalsAt : ByteArray := prog_2_method_13_code
abbrev y_Bytes_equalsAt : MethodName := { cls := "DocumentBytes$Bytes", name := "equalsAt", desc := "(ILDocumentBytes$Bytes;II)Z" }
abbrev w_Bytes_equalsAt : List Cond := Cond.code y_Bytes_equalsAt b_Bytes_equalsAt 6 (Option.some Jvm.ClassFile.FieldType.boolean) :: wA
abbrev b_Reader_readText : ByteArray := prog_5_method_9_code
abbrev y_Reader_readText : MethodName := { cls := "DocumentBytes$Reader", name := "readText", desc := "(I)V" }
abbrev w_Reader_readText : List Cond := Cond.code y_Reader_readText b_Reader_readText 7 (Option.none : Option Jvm.ClassFile.FieldType) :: wA
abbrev b_Reader_readNumber : ByteArray := prog_5_method_10_code
abbrev y_Reader_readNumber : MethodName := { cls := "DocumentBytes$Reader", name := "readNumber", desc := "(II)V" }
abbrev w_Reader_readNumber : List Cond := Cond.code y_Reader_readNumber b_Reader_readNumber 4 (Option.none : Option Jvm.ClassFile.FieldType) :: wA
abbrev b_Reader_faultPlace : ByteArray := prog_5_method_2_code
abbrev y_Reader_faultPlace : MethodName := { cls := "DocumentBytes$Reader", name := "faultPlace", desc := "()I" }
abbrev w_Reader_faultPlace : List Cond := Cond.code y_Reader_faultPlace b_Reader_faultPlace 1 (Option.some Jvm.ClassFile.FieldType.int) :: wA
abbrev b_Bytes_clear : ByteArray := prog_2_method_3_code
abbrev y_Bytes_clear : MethodName := { cls := "DocumentBytes$Bytes", name := "clear", desc := "()V" }
abbrev w_Bytes_clear : List Cond := Cond.code y_Bytes_clear b_Bytes_clear 1 (Option.none : Option Jvm.ClassFile.FieldType) :: wA
abbrev b_Bytes_appendFrom : ByteArray := prog_2_method_17_code
abbrev y_Bytes_appendFrom : MethodName := { cls := "DocumentBytes$Bytes", name := "appendFrom", desc := "(LDocumentBytes$Bytes;II)V" }
abbrev w_Bytes_appendFrom : List Cond := Cond.code y_Bytes_appendFrom b_Bytes_appendFrom 5 (Option.none : Option Jvm.ClassFile.FieldType) :: wA
abbrev b_Bytes_putFrom : ByteArray := prog_2_method_16_code
abbrev y_Bytes_putFrom : MethodName := { cls := "DocumentBytes$Bytes", name := "putFrom", desc := "(ILDocumentBytes$Bytes;II)V" }
abbrev w_Bytes_putFrom : List Cond := Cond.code y_Bytes_putFrom b_Bytes_putFrom 5 (Option.none : Option Jvm.ClassFile.FieldType) :: wA
abbrev b_Doc_place : ByteArray := prog_1_method_4_code
abbrev y_Doc_place : MethodName := { cls := "DocumentBytes", name := "place", desc := "()I" }
abbrev w_Doc_place : List Cond := Cond.code y_Doc_place b_Doc_place 1 (Option.some Jvm.ClassFile.FieldType.int) :: wA
abbrev b_Doc_many : ByteArray := prog_1_method_5_code
abbrev y_Doc_many : MethodName := { cls := "DocumentBytes", name := "many", desc := "(II)I" }
abbrev w_Doc_many : List Cond := Cond.code y_Doc_many b_Doc_many 3 (Option.some Jvm.ClassFile.FieldType.int) :: wA
abbrev b_Doc_hasNode : ByteArray := prog_1_method_16_code
abbrev y_Doc_hasNode : MethodName := { cls := "DocumentBytes", name := "hasNode", desc := "(II)Z" }
abbrev w_Doc_hasNode : List Cond := Cond.code y_Doc_hasNode b_Doc_hasNode 3 (Option.some Jvm.ClassFile.FieldType.boolean) :: wA
abbrev b_Nodes_scan : ByteArray := prog_4_method_4_code
abbrev y_Nodes_scan : MethodName := { cls := "DocumentBytes$Nodes", name := "scan", desc := "(LDocumentBytes$Bytes;)V" }
abbrev w_Nodes_scan : List Cond := Cond.code y_Nodes_scan b_Nodes_scan 10 (Option.none : Option Jvm.ClassFile.FieldType) :: wA
abbrev b_Kinds_valueLength : ByteArray := prog_3_method_5_code
abbrev y_Kinds_valueLength : MethodName := { cls := "DocumentBytes$Kinds", name := "valueLength", desc := "(ILDocumentBytes$Bytes;I)I" }
abbrev w_Kinds_valueLength : List Cond := Cond.code y_Kinds_valueLength b_Kinds_valueLength 3 (Option.some Jvm.ClassFile.FieldType.int) :: wA
abbrev b_Nodes_count : ByteArray := prog_4_method_5_code
abbrev y_Nodes_count : MethodName := { cls := "DocumentBytes$Nodes", name := "count", desc := "()I" }
abbrev w_Nodes_count : List Cond := Cond.code y_Nodes_count b_Nodes_count 1 (Option.some Jvm.ClassFile.FieldType.int) :: wA
abbrev b_Nodes_deepestIn : ByteArray := prog_4_method_19_code
abbrev y_Nodes_deepestIn : MethodName := { cls := "DocumentBytes$Nodes", name := "deepestIn", desc := "(I)I" }
abbrev w_Nodes_deepestIn : List Cond := Cond.code y_Nodes_deepestIn b_Nodes_deepestIn 5 (Option.some Jvm.ClassFile.FieldType.int) :: wA
abbrev b_Nodes_behind : ByteArray := prog_4_method_17_code
abbrev y_Nodes_behind : MethodName := { cls := "DocumentBytes$Nodes", name := "behind", desc := "(I)I" }
abbrev w_Nodes_behind : List Cond := Cond.code y_Nodes_behind b_Nodes_behind 3 (Option.some Jvm.ClassFile.FieldType.int) :: wA
abbrev b_Math_max : ByteArray := prog_10_method_65_code
abbrev y_Math_max : MethodName := { cls := "java/lang/Math", name := "max", desc := "(II)I" }
abbrev w_Math_max : List Cond := Cond.code y_Math_max b_Math_max 2 (Option.some Jvm.ClassFile.FieldType.int) :: wA
abbrev b_Doc_byteAt : ByteArray := prog_1_method_6_code
abbrev y_Doc_byteAt : MethodName := { cls := "DocumentBytes", name := "byteAt", desc := "(II)I" }
abbrev w_Doc_byteAt : List Cond := Cond.code y_Doc_byteAt b_Doc_byteAt 3 (Option.some Jvm.ClassFile.FieldType.int) :: wA
abbrev b_Doc_look : ByteArray := prog_1_method_7_code
abbrev y_Doc_look : MethodName := { cls := "DocumentBytes", name := "look", desc := "(III)I" }
abbrev w_Doc_look : List Cond := Cond.code y_Doc_look b_Doc_look 4 (Option.some Jvm.ClassFile.FieldType.int) :: wA
abbrev b_Nodes_nextBeside : ByteArray := prog_4_method_18_code
abbrev y_Nodes_nextBeside : MethodName := { cls := "DocumentBytes$Nodes", name := "nextBeside", desc := "(I)I" }
abbrev w_Nodes_nextBeside : List Cond := Cond.code y_Nodes_nextBeside b_Nodes_nextBeside 3 (Option.some Jvm.ClassFile.FieldType.int) :: wA
abbrev b_Nodes_valueLength : ByteArray := prog_4_method_13_code
abbrev y_Nodes_valueLength : MethodName := { cls := "DocumentBytes$Nodes", name := "valueLength", desc := "(I)I" }
abbrev w_Nodes_valueLength : List Cond := Cond.code y_Nodes_valueLength b_Nodes_valueLength 2 (Option.some Jvm.ClassFile.FieldType.int) :: wA
abbrev b_Nodes_textLength : ByteArray := prog_4_method_14_code
abbrev y_Nodes_textLength : MethodName := { cls := "DocumentBytes$Nodes", name := "textLength", desc := "(I)I" }
abbrev w_Nodes_textLength : List Cond := Cond.code y_Nodes_textLength b_Nodes_textLength 2 (Option.some Jvm.ClassFile.FieldType.int) :: wA
abbrev b_Doc_number : ByteArray := prog_1_method_8_code
abbrev y_Doc_number : MethodName := { cls := "DocumentBytes", name := "number", desc := "(II)J" }
abbrev w_Doc_number : List Cond := Cond.code y_Doc_number b_Doc_number 6 (Option.some Jvm.ClassFile.FieldType.long) :: wA
abbrev b_Nodes_value : ByteArray := prog_4_method_12_code
abbrev y_Nodes_value : MethodName := { cls := "DocumentBytes$Nodes", name := "value", desc := "(I)I" }
abbrev w_Nodes_value : List Cond := Cond.code y_Nodes_value b_Nodes_value 2 (Option.some Jvm.ClassFile.FieldType.int) :: wA
abbrev b_Doc_letter : ByteArray := prog_1_method_9_code
abbrev y_Doc_letter : MethodName := { cls := "DocumentBytes", name := "letter", desc := "(IIZI)I" }
abbrev w_Doc_letter : List Cond := Cond.code y_Doc_letter b_Doc_letter 7 (Option.some Jvm.ClassFile.FieldType.int) :: wA
abbrev b_Doc_find : ByteArray := prog_1_method_10_code
abbrev y_Doc_find : MethodName := { cls := "DocumentBytes", name := "find", desc := "(III)I" }
abbrev w_Doc_find : List Cond := Cond.code y_Doc_find b_Doc_find 5 (Option.some Jvm.ClassFile.FieldType.int) :: wA
abbrev b_Doc_add : ByteArray := prog_1_method_11_code
abbrev y_Doc_add : MethodName := { cls := "DocumentBytes", name := "add", desc := "(IIIJII)I" }
abbrev w_Doc_add : List Cond := Cond.code y_Doc_add b_Doc_add 9 (Option.some Jvm.ClassFile.FieldType.int) :: wA
abbrev b_Doc_mayHold : ByteArray := prog_1_method_17_code
abbrev y_Doc_mayHold : MethodName := { cls := "DocumentBytes", name := "mayHold", desc := "(II)Z" }
abbrev w_Doc_mayHold : List Cond := Cond.code y_Doc_mayHold b_Doc_mayHold 3 (Option.some Jvm.ClassFile.FieldType.boolean) :: wA
abbrev b_Doc_addFromTape : ByteArray := prog_1_method_18_code
abbrev y_Doc_addFromTape : MethodName := { cls := "DocumentBytes", name := "addFromTape", desc := "(IIIJII)I" }
abbrev w_Doc_addFromTape : List Cond := Cond.code y_Doc_addFromTape b_Doc_addFromTape 9 (Option.some Jvm.ClassFile.FieldType.int) :: wA
abbrev b_Kinds_allows : ByteArray := prog_3_method_6_code
abbrev y_Kinds_allows : MethodName := { cls := "DocumentBytes$Kinds", name := "allows", desc := "(IJ)Z" }
abbrev w_Kinds_allows : List Cond := Cond.code y_Kinds_allows b_Kinds_allows 3 (Option.some Jvm.ClassFile.FieldType.boolean) :: wA
abbrev b_Doc_nameCountFits : ByteArray := prog_1_method_19_code
abbrev y_Doc_nameCountFits : MethodName := { cls := "DocumentBytes", name := "nameCountFits", desc := "(II)Z" }
abbrev w_Doc_nameCountFits : List Cond := Cond.code y_Doc_nameCountFits b_Doc_nameCountFits 3 (Option.some Jvm.ClassFile.FieldType.boolean) :: wA
abbrev b_Bytes_appendText : ByteArray := prog_2_method_21_code
abbrev y_Bytes_appendText : MethodName := { cls := "DocumentBytes$Bytes", name := "appendText", desc := "(LDocumentBytes$Bytes;II)V" }
abbrev w_Bytes_appendText : List Cond := Cond.code y_Bytes_appendText b_Bytes_appendText 4 (Option.none : Option Jvm.ClassFile.FieldType) :: wA
abbrev b_Doc_insertFresh : ByteArray := prog_1_method_20_code
abbrev y_Doc_insertFresh : MethodName := { cls := "DocumentBytes", name := "insertFresh", desc := "(IIIII)I" }
abbrev w_Doc_insertFresh : List Cond := Cond.code y_Doc_insertFresh b_Doc_insertFresh 10 (Option.some Jvm.ClassFile.FieldType.int) :: wA
abbrev b_Doc_isFreeName : ByteArray := prog_1_method_22_code
abbrev y_Doc_isFreeName : MethodName := { cls := "DocumentBytes", name := "isFreeName", desc := "(II)Z" }
abbrev w_Doc_isFreeName : List Cond := Cond.code y_Doc_isFreeName b_Doc_isFreeName 3 (Option.some Jvm.ClassFile.FieldType.boolean) :: wA
abbrev b_Doc_writeFresh : ByteArray := prog_1_method_21_code
abbrev y_Doc_writeFresh : MethodName := { cls := "DocumentBytes", name := "writeFresh", desc := "(LDocumentBytes$Bytes;III)V" }
abbrev w_Doc_writeFresh : List Cond := Cond.code y_Doc_writeFresh b_Doc_writeFresh 9 (Option.none : Option Jvm.ClassFile.FieldType) :: wA
abbrev b_Bytes_putDecimal : ByteArray := prog_2_method_11_code
abbrev y_Bytes_putDecimal : MethodName := { cls := "DocumentBytes$Bytes", name := "putDecimal", desc := "(III)V" }
abbrev w_Bytes_putDecimal : List Cond := Cond.code y_Bytes_putDecimal b_Bytes_putDecimal 6 (Option.none : Option Jvm.ClassFile.FieldType) :: wA
abbrev b_Doc_resizeUpwards : ByteArray := prog_1_method_24_code
abbrev y_Doc_resizeUpwards : MethodName := { cls := "DocumentBytes", name := "resizeUpwards", desc := "(LDocumentBytes$Bytes;II)V" }
abbrev w_Doc_resizeUpwards : List Cond := Cond.code y_Doc_resizeUpwards b_Doc_resizeUpwards 7 (Option.none : Option Jvm.ClassFile.FieldType) :: wA
abbrev b_Doc_graft : ByteArray := prog_1_method_12_code
abbrev y_Doc_graft : MethodName := { cls := "DocumentBytes", name := "graft", desc := "(IIIII)I" }
abbrev w_Doc_graft : List Cond := Cond.code y_Doc_graft b_Doc_graft 9 (Option.some Jvm.ClassFile.FieldType.int) :: wA
abbrev b_Nodes_levels : ByteArray := prog_4_method_20_code
abbrev y_Nodes_levels : MethodName := { cls := "DocumentBytes$Nodes", name := "levels", desc := "(I)I" }
abbrev w_Nodes_levels : List Cond := Cond.code y_Nodes_levels b_Nodes_levels 3 (Option.some Jvm.ClassFile.FieldType.int) :: wA
abbrev b_Doc_set : ByteArray := prog_1_method_13_code
abbrev y_Doc_set : MethodName := { cls := "DocumentBytes", name := "set", desc := "(IIJ)Z" }
abbrev w_Doc_set : List Cond := Cond.code y_Doc_set b_Doc_set 7 (Option.some Jvm.ClassFile.FieldType.boolean) :: wA
abbrev b_Doc_drop : ByteArray := prog_1_method_14_code
abbrev y_Doc_drop : MethodName := { cls := "DocumentBytes", name := "drop", desc := "(II)Z" }
abbrev w_Doc_drop : List Cond := Cond.code y_Doc_drop b_Doc_drop 7 (Option.some Jvm.ClassFile.FieldType.boolean) :: wA
abbrev b_Doc_renumberBehind : ByteArray := prog_1_method_23_code
abbrev y_Doc_renumberBehind : MethodName := { cls := "DocumentBytes", name := "renumberBehind", desc := "(LDocumentBytes$Bytes;II)V" }
abbrev w_Doc_renumberBehind : List Cond := Cond.code y_Doc_renumberBehind b_Doc_renumberBehind 7 (Option.none : Option Jvm.ClassFile.FieldType) :: wA
abbrev b_Bytes_cut : ByteArray := prog_2_method_15_code
abbrev y_Bytes_cut : MethodName := { cls := "DocumentBytes$Bytes", name := "cut", desc := "(II)V" }
abbrev w_Bytes_cut : List Cond := Cond.code y_Bytes_cut b_Bytes_cut 3 (Option.none : Option Jvm.ClassFile.FieldType) :: wA
abbrev b_Model_init : ByteArray := prog_8_method_1_code
abbrev y_Model_init : MethodName := { cls := "DocumentBytesModel", name := "<init>", desc := "()V" }
abbrev w_Model_init : List Cond := Cond.code y_Model_init b_Model_init 2 (Option.none : Option Jvm.ClassFile.FieldType) :: wA
abbrev b_Model_feed : ByteArray := prog_8_method_3_code
abbrev y_Model_feed : MethodName := { cls := "DocumentBytesModel", name := "feed", desc := "(IIIII)I" }
abbrev w_Model_feed : List Cond := Cond.code y_Model_feed b_Model_feed 6 (Option.some Jvm.ClassFile.FieldType.int) :: wA
abbrev b_Model_put : ByteArray := prog_8_method_4_code
abbrev y_Model_put : MethodName := { cls := "DocumentBytesModel", name := "put", desc := "(I)V" }
abbrev w_Model_put : List Cond := Cond.code y_Model_put b_Model_put 3 (Option.none : Option Jvm.ClassFile.FieldType) :: wA
abbrev b_Model_read : ByteArray := prog_8_method_22_code
abbrev y_Model_read : MethodName := { cls := "DocumentBytesModel", name := "read", desc := "(II)I" }
abbrev w_Model_read : List Cond := Cond.code y_Model_read b_Model_read 4 (Option.some Jvm.ClassFile.FieldType.int) :: wA
abbrev b_Model_isSlot : ByteArray := prog_8_method_19_code
abbrev y_Model_isSlot : MethodName := { cls := "DocumentBytesModel", name := "isSlot", desc := "(I)Z" }
abbrev w_Model_isSlot : List Cond := Cond.code y_Model_isSlot b_Model_isSlot 1 (Option.some Jvm.ClassFile.FieldType.boolean) :: wA
abbrev b_Model_goOver : ByteArray := prog_8_method_11_code
abbrev y_Model_goOver : MethodName := { cls := "DocumentBytesModel", name := "goOver", desc := "(I)V" }
abbrev w_Model_goOver : List Cond := Cond.code y_Model_goOver b_Model_goOver 5 (Option.none : Option Jvm.ClassFile.FieldType) :: wA
abbrev b_Model_opens : ByteArray := prog_8_method_9_code
abbrev y_Model_opens : MethodName := { cls := "DocumentBytesModel", name := "opens", desc := "(IIIIZ)Z" }
abbrev w_Model_opens : List Cond := Cond.code y_Model_opens b_Model_opens 8 (Option.some Jvm.ClassFile.FieldType.boolean) :: wA
abbrev b_Model_stop : ByteArray := prog_8_method_5_code
abbrev y_Model_stop : MethodName := { cls := "DocumentBytesModel", name := "stop", desc := "(II)V" }
abbrev w_Model_stop : List Cond := Cond.code y_Model_stop b_Model_stop 3 (Option.none : Option Jvm.ClassFile.FieldType) :: wA
abbrev b_Model_low : ByteArray := prog_8_method_6_code
abbrev y_Model_low : MethodName := { cls := "DocumentBytesModel", name := "low", desc := "(II)J" }
abbrev w_Model_low : List Cond := Cond.code y_Model_low b_Model_low 6 (Option.some Jvm.ClassFile.FieldType.long) :: wA
abbrev b_Model_isKind : ByteArray := prog_8_method_10_code
abbrev y_Model_isKind : MethodName := { cls := "DocumentBytesModel", name := "isKind", desc := "(I)Z" }
abbrev w_Model_isKind : List Cond := Cond.code y_Model_isKind b_Model_isKind 2 (Option.some Jvm.ClassFile.FieldType.boolean) :: wA
abbrev b_Model_element : ByteArray := prog_8_method_12_code
abbrev y_Model_element : MethodName := { cls := "DocumentBytesModel", name := "element", desc := "(III)I" }
abbrev w_Model_element : List Cond := Cond.code y_Model_element b_Model_element 8 (Option.some Jvm.ClassFile.FieldType.int) :: wA
abbrev b_Model_badText : ByteArray := prog_8_method_8_code
abbrev y_Model_badText : MethodName := { cls := "DocumentBytesModel", name := "badText", desc := "([III)I" }
abbrev w_Model_badText : List Cond := Cond.code y_Model_badText b_Model_badText 5 (Option.some Jvm.ClassFile.FieldType.int) :: wA
abbrev b_Model_character : ByteArray := prog_8_method_7_code
abbrev y_Model_character : MethodName := { cls := "DocumentBytesModel", name := "character", desc := "([III)I" }
abbrev w_Model_character : List Cond := Cond.code y_Model_character b_Model_character 7 (Option.some Jvm.ClassFile.FieldType.int) :: wA
abbrev b_Model_isName : ByteArray := prog_8_method_13_code
abbrev y_Model_isName : MethodName := { cls := "DocumentBytesModel", name := "isName", desc := "(III)Z" }
abbrev w_Model_isName : List Cond := Cond.code y_Model_isName b_Model_isName 7 (Option.some Jvm.ClassFile.FieldType.boolean) :: wA
abbrev b_Model_isNumber : ByteArray := prog_8_method_16_code
abbrev y_Model_isNumber : MethodName := { cls := "DocumentBytesModel", name := "isNumber", desc := "([IIII)Z" }
abbrev w_Model_isNumber : List Cond := Cond.code y_Model_isNumber b_Model_isNumber 5 (Option.some Jvm.ClassFile.FieldType.boolean) :: wA
abbrev b_Model_digits : ByteArray := prog_8_method_14_code
abbrev y_Model_digits : MethodName := { cls := "DocumentBytesModel", name := "digits", desc := "(I)I" }
abbrev w_Model_digits : List Cond := Cond.code y_Model_digits b_Model_digits 1 (Option.some Jvm.ClassFile.FieldType.int) :: wA
abbrev b_Model_digit : ByteArray := prog_8_method_15_code
abbrev y_Model_digit : MethodName := { cls := "DocumentBytesModel", name := "digit", desc := "(II)I" }
abbrev w_Model_digit : List Cond := Cond.code y_Model_digit b_Model_digit 4 (Option.some Jvm.ClassFile.FieldType.int) :: wA
abbrev b_Model_value : ByteArray := prog_8_method_17_code
abbrev y_Model_value : MethodName := { cls := "DocumentBytesModel", name := "value", desc := "(III)I" }
abbrev w_Model_value : List Cond := Cond.code y_Model_value b_Model_value 6 (Option.some Jvm.ClassFile.FieldType.int) :: wA
abbrev b_Model_text : ByteArray := prog_8_method_18_code
abbrev y_Model_text : MethodName := { cls := "DocumentBytesModel", name := "text", desc := "(II)I" }
abbrev w_Model_text : List Cond := Cond.code y_Model_text b_Model_text 8 (Option.some Jvm.ClassFile.FieldType.int) :: wA
abbrev b_Model_store : ByteArray := prog_8_method_21_code
abbrev y_Model_store : MethodName := { cls := "DocumentBytesModel", name := "store", desc := "(I)V" }
abbrev w_Model_store : List Cond := Cond.code y_Model_store b_Model_store 3 (Option.none : Option Jvm.ClassFile.FieldType) :: wA
abbrev b_Model_place : ByteArray := prog_8_method_23_code
abbrev y_Model_place : MethodName := { cls := "DocumentBytesModel", name := "place", desc := "()I" }
abbrev w_Model_place : List Cond := Cond.code y_Model_place b_Model_place 1 (Option.some Jvm.ClassFile.FieldType.int) :: wA
abbrev b_Model_many : ByteArray := prog_8_method_24_code
abbrev y_Model_many : MethodName := { cls := "DocumentBytesModel", name := "many", desc := "(II)I" }
abbrev w_Model_many : List Cond := Cond.code y_Model_many b_Model_many 3 (Option.some Jvm.ClassFile.FieldType.int) :: wA
abbrev b_Model_load : ByteArray := prog_8_method_20_code
abbrev y_Model_load : MethodName := { cls := "DocumentBytesModel", name := "load", desc := "(I)V" }
abbrev w_Model_load : List Cond := Cond.code y_Model_load b_Model_load 4 (Option.none : Option Jvm.ClassFile.FieldType) :: wA
abbrev b_Model_byteAt : ByteArray := prog_8_method_25_code
abbrev y_Model_byteAt : MethodName := { cls := "DocumentBytesModel", name := "byteAt", desc := "(II)I" }
abbrev w_Model_byteAt : List Cond := Cond.code y_Model_byteAt b_Model_byteAt 3 (Option.some Jvm.ClassFile.FieldType.int) :: wA
abbrev b_Model_look : ByteArray := prog_8_method_32_code
abbrev y_Model_look : MethodName := { cls := "DocumentBytesModel", name := "look", desc := "(III)I" }
abbrev w_Model_look : List Cond := Cond.code y_Model_look b_Model_look 4 (Option.some Jvm.ClassFile.FieldType.int) :: wA
abbrev b_Model_isNode : ByteArray := prog_8_method_26_code
abbrev y_Model_isNode : MethodName := { cls := "DocumentBytesModel", name := "isNode", desc := "(II)Z" }
abbrev w_Model_isNode : List Cond := Cond.code y_Model_isNode b_Model_isNode 3 (Option.some Jvm.ClassFile.FieldType.boolean) :: wA
abbrev b_Model_kindOf : ByteArray := prog_8_method_27_code
abbrev y_Model_kindOf : MethodName := { cls := "DocumentBytesModel", name := "kindOf", desc := "(I)I" }
abbrev w_Model_kindOf : List Cond := Cond.code y_Model_kindOf b_Model_kindOf 2 (Option.some Jvm.ClassFile.FieldType.int) :: wA
abbrev b_Model_nextIn : ByteArray := prog_8_method_30_code
abbrev y_Model_nextIn : MethodName := { cls := "DocumentBytesModel", name := "nextIn", desc := "(II)I" }
abbrev w_Model_nextIn : List Cond := Cond.code y_Model_nextIn b_Model_nextIn 4 (Option.some Jvm.ClassFile.FieldType.int) :: wA
abbrev b_Model_valueAt : ByteArray := prog_8_method_29_code
abbrev y_Model_valueAt : MethodName := { cls := "DocumentBytesModel", name := "valueAt", desc := "(I)I" }
abbrev w_Model_valueAt : List Cond := Cond.code y_Model_valueAt b_Model_valueAt 2 (Option.some Jvm.ClassFile.FieldType.int) :: wA
abbrev b_Model_isBox : ByteArray := prog_8_method_28_code
abbrev y_Model_isBox : MethodName := { cls := "DocumentBytesModel", name := "isBox", desc := "(I)Z" }
abbrev w_Model_isBox : List Cond := Cond.code y_Model_isBox b_Model_isBox 2 (Option.some Jvm.ClassFile.FieldType.boolean) :: wA
abbrev b_Model_elements : ByteArray := prog_8_method_31_code
abbrev y_Model_elements : MethodName := { cls := "DocumentBytesModel", name := "elements", desc := "(I)I" }
abbrev w_Model_elements : List Cond := Cond.code y_Model_elements b_Model_elements 4 (Option.some Jvm.ClassFile.FieldType.int) :: wA
abbrev b_Model_number : ByteArray := prog_8_method_34_code
abbrev y_Model_number : MethodName := { cls := "DocumentBytesModel", name := "number", desc := "(II)J" }
abbrev w_Model_number : List Cond := Cond.code y_Model_number b_Model_number 3 (Option.some Jvm.ClassFile.FieldType.long) :: wA
abbrev b_Model_numberOf : ByteArray := prog_8_method_33_code
abbrev y_Model_numberOf : MethodName := { cls := "DocumentBytesModel", name := "numberOf", desc := "(I)J" }
abbrev w_Model_numberOf : List Cond := Cond.code y_Model_numberOf b_Model_numberOf 3 (Option.some Jvm.ClassFile.FieldType.long) :: wA
abbrev b_Model_letter : ByteArray := prog_8_method_35_code
abbrev y_Model_letter : MethodName := { cls := "DocumentBytesModel", name := "letter", desc := "(IIZI)I" }
abbrev w_Model_letter : List Cond := Cond.code y_Model_letter b_Model_letter 5 (Option.some Jvm.ClassFile.FieldType.int) :: wA
abbrev b_Model_find : ByteArray := prog_8_method_37_code
abbrev y_Model_find : MethodName := { cls := "DocumentBytesModel", name := "find", desc := "(III)I" }
abbrev w_Model_find : List Cond := Cond.code y_Model_find b_Model_find 5 (Option.some Jvm.ClassFile.FieldType.int) :: wA
abbrev b_Model_findName : ByteArray := prog_8_method_36_code
abbrev y_Model_findName : MethodName := { cls := "DocumentBytesModel", name := "findName", desc := "(II)I" }
abbrev w_Model_findName : List Cond := Cond.code y_Model_findName b_Model_findName 6 (Option.some Jvm.ClassFile.FieldType.int) :: wA
abbrev b_Model_add : ByteArray := prog_8_method_47_code
abbrev y_Model_add : MethodName := { cls := "DocumentBytesModel", name := "add", desc := "(IIIJII)I" }
abbrev w_Model_add : List Cond := Cond.code y_Model_add b_Model_add 10 (Option.some Jvm.ClassFile.FieldType.int) :: wA
abbrev b_Model_canBe : ByteArray := prog_8_method_44_code
abbrev y_Model_canBe : MethodName := { cls := "DocumentBytesModel", name := "canBe", desc := "(IIJII)Z" }
abbrev w_Model_canBe : List Cond := Cond.code y_Model_canBe b_Model_canBe 7 (Option.some Jvm.ClassFile.FieldType.boolean) :: wA
abbrev b_Model_isNameFree : ByteArray := prog_8_method_45_code
abbrev y_Model_isNameFree : MethodName := { cls := "DocumentBytesModel", name := "isNameFree", desc := "(II)Z" }
abbrev w_Model_isNameFree : List Cond := Cond.code y_Model_isNameFree b_Model_isNameFree 4 (Option.some Jvm.ClassFile.FieldType.boolean) :: wA
abbrev b_Model_writeHead : ByteArray := prog_8_method_42_code
abbrev y_Model_writeHead : MethodName := { cls := "DocumentBytesModel", name := "writeHead", desc := "(III)V" }
abbrev w_Model_writeHead : List Cond := Cond.code y_Model_writeHead b_Model_writeHead 6 (Option.none : Option Jvm.ClassFile.FieldType) :: wA
abbrev b_Model_write : ByteArray := prog_8_method_40_code
abbrev y_Model_write : MethodName := { cls := "DocumentBytesModel", name := "write", desc := "(I)V" }
abbrev w_Model_write : List Cond := Cond.code y_Model_write b_Model_write 2 (Option.none : Option Jvm.ClassFile.FieldType) :: wA
abbrev b_Model_writeLow : ByteArray := prog_8_method_41_code
abbrev y_Model_writeLow : MethodName := { cls := "DocumentBytesModel", name := "writeLow", desc := "(JI)V" }
abbrev w_Model_writeLow : List Cond := Cond.code y_Model_writeLow b_Model_writeLow 5 (Option.none : Option Jvm.ClassFile.FieldType) :: wA
abbrev b_Model_insert : ByteArray := prog_8_method_46_code
abbrev y_Model_insert : MethodName := { cls := "DocumentBytesModel", name := "insert", desc := "(II)I" }
abbrev w_Model_insert : List Cond := Cond.code y_Model_insert b_Model_insert 4 (Option.some Jvm.ClassFile.FieldType.int) :: wA
abbrev b_Model_lastOf : ByteArray := prog_8_method_43_code
abbrev y_Model_lastOf : MethodName := { cls := "DocumentBytesModel", name := "lastOf", desc := "(I)I" }
abbrev w_Model_lastOf : List Cond := Cond.code y_Model_lastOf b_Model_lastOf 4 (Option.some Jvm.ClassFile.FieldType.int) :: wA
abbrev b_Model_splice : ByteArray := prog_8_method_38_code
abbrev y_Model_splice : MethodName := { cls := "DocumentBytesModel", name := "splice", desc := "(III)V" }
abbrev w_Model_splice : List Cond := Cond.code y_Model_splice b_Model_splice 6 (Option.none : Option Jvm.ClassFile.FieldType) :: wA
abbrev b_Model_putLow : ByteArray := prog_8_method_39_code
abbrev y_Model_putLow : MethodName := { cls := "DocumentBytesModel", name := "putLow", desc := "(IJ)V" }
abbrev w_Model_putLow : List Cond := Cond.code y_Model_putLow b_Model_putLow 5 (Option.none : Option Jvm.ClassFile.FieldType) :: wA
abbrev b_Model_graft : ByteArray := prog_8_method_49_code
abbrev y_Model_graft : MethodName := { cls := "DocumentBytesModel", name := "graft", desc := "(IIIII)I" }
abbrev w_Model_graft : List Cond := Cond.code y_Model_graft b_Model_graft 12 (Option.some Jvm.ClassFile.FieldType.int) :: wA
abbrev b_Model_deepIn : ByteArray := prog_8_method_48_code
abbrev y_Model_deepIn : MethodName := { cls := "DocumentBytesModel", name := "deepIn", desc := "(I)I" }
abbrev w_Model_deepIn : List Cond := Cond.code y_Model_deepIn b_Model_deepIn 5 (Option.some Jvm.ClassFile.FieldType.int) :: wA
abbrev b_Model_set : ByteArray := prog_8_method_50_code
abbrev y_Model_set : MethodName := { cls := "DocumentBytesModel", name := "set", desc := "(IIJ)Z" }
abbrev w_Model_set : List Cond := Cond.code y_Model_set b_Model_set 8 (Option.some Jvm.ClassFile.FieldType.boolean) :: wA
abbrev b_Model_drop : ByteArray := prog_8_method_51_code
abbrev y_Model_drop : MethodName := { cls := "DocumentBytesModel", name := "drop", desc := "(II)Z" }
abbrev w_Model_drop : List Cond := Cond.code y_Model_drop b_Model_drop 9 (Option.some Jvm.ClassFile.FieldType.boolean) :: wA
abbrev b_Model_renumber : ByteArray := prog_8_method_52_code
abbrev y_Model_renumber : MethodName := { cls := "DocumentBytesModel", name := "renumber", desc := "()V" }
abbrev w_Model_renumber : List Cond := Cond.code y_Model_renumber b_Model_renumber 1 (Option.none : Option Jvm.ClassFile.FieldType) :: wA
abbrev b_Model_goOverAgain : ByteArray := prog_8_method_53_code
abbrev y_Model_goOverAgain : MethodName := { cls := "DocumentBytesModel", name := "goOverAgain", desc := "()V" }
abbrev w_Model_goOverAgain : List Cond := Cond.code y_Model_goOverAgain b_Model_goOverAgain 2 (Option.none : Option Jvm.ClassFile.FieldType) :: wA
abbrev b_Model_itemOf : ByteArray := prog_8_method_54_code
abbrev y_Model_itemOf : MethodName := { cls := "DocumentBytesModel", name := "itemOf", desc := "(II)I" }
abbrev w_Model_itemOf : List Cond := Cond.code y_Model_itemOf b_Model_itemOf 5 (Option.some Jvm.ClassFile.FieldType.int) :: wA
