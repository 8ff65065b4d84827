def rc_kind : Cond → Bool
  | .code .. | .codeSync .. | .codeWith .. | .static _ | .instanceMethod _ | .native _ | .initialized _ | .methodLink .. | .fieldLink .. | .classLink .. | .methodLinkNest .. | .fieldLinkNest .. | .selects .. | .sameMethod .. | .constant .. | .constantLong .. | .declares _ | .privateMethod _ | .castable .. | .lays .. | .laysFinal .. | .instantiable .. | .superclass .. | .soleField .. | .arrayClass _ | .arrayOver (.object _) => true
  | _ => false
/-- the tables but what speaks of the heap -/
def rc_tb : List Cond := lw_tbl.filter rc_kind
theorem rc_kinds : ∀ w ∈ rc_tb, rc_kind w = true := fun w h => (List.mem_filter.mp h).2
def rc_R : Nat → String
  | 0 => "RecordCalls"
  | 1 => "RecordCalls$Row"
  | 2 => "RecordCalls$Server"
  | 3 => "RecordCalls$KeyMap"
  | 4 => "RecordCalls$Reader"
  | 5 => "RecordCalls$Connection"
  | 6 => "RecordCalls$Replies"
  | _ => "RecordCallsModel"
def rc_N : Nat → Nat
  | 0 => 7
  | 1 => 2
  | 2 => 13
  | 3 => 3
  | 4 => 3
  | 5 => 6
  | 6 => 4
  | _ => 34
def rc_F0 : u_T := fun k => match k with
  | 0 => ("RecordCalls", "tape", "LRecordCalls$Row;", true)
  | 1 => ("RecordCalls", "slots", "[LRecordCalls$Row;", true)
  | 2 => ("RecordCalls", "connections", "[LRecordCalls$Connection;", true)
  | 3 => ("RecordCalls", "server", "LRecordCalls$Server;", true)
  | 4 => ("RecordCalls", "pushed", "LRecordCalls$Row;", true)
  | 5 => ("RecordCalls", "joined", "LRecordCalls$Row;", true)
  | _ => ("RecordCalls", "slotsMade", "I", false)
def rc_t0 : Nat → FieldType := fun k => match k with
  | 0 => .object "RecordCalls$Row"
  | 1 => .array (.object "RecordCalls$Row")
  | 2 => .array (.object "RecordCalls$Connection")
  | 3 => .object "RecordCalls$Server"
  | 4 => .object "RecordCalls$Row"
  | 5 => .object "RecordCalls$Row"
  | _ => .int
def rc_F1 : u_T := fun k => match k with
  | 0 => ("RecordCalls$Row", "bytes", "[B", false)
  | _ => ("RecordCalls$Row", "used", "I", false)
def rc_t1 : Nat → FieldType := fun k => match k with
  | 0 => .array (.byte)
  | _ => .int
def rc_F2 : u_T := fun k => match k with
  | 0 => ("RecordCalls$Server", "map", "LRecordCalls$KeyMap;", true)
  | 1 => ("RecordCalls$Server", "reader", "LRecordCalls$Reader;", true)
  | 2 => ("RecordCalls$Server", "reply", "LRecordCalls$Row;", true)
  | 3 => ("RecordCalls$Server", "done", "I", false)
  | 4 => ("RecordCalls$Server", "repeated", "I", false)
  | 5 => ("RecordCalls$Server", "bad", "I", false)
  | 6 => ("RecordCalls$Server", "keyStarts", "[I", true)
  | 7 => ("RecordCalls$Server", "keySizes", "[I", true)
  | 8 => ("RecordCalls$Server", "procedure", "I", false)
  | 9 => ("RecordCalls$Server", "keysTaken", "I", false)
  | 10 => ("RecordCalls$Server", "longTaken", "J", false)
  | 11 => ("RecordCalls$Server", "from", "I", false)
  | _ => ("RecordCalls$Server", "most", "I", false)
def rc_t2 : Nat → FieldType := fun k => match k with
  | 0 => .object "RecordCalls$KeyMap"
  | 1 => .object "RecordCalls$Reader"
  | 2 => .object "RecordCalls$Row"
  | 3 => .int
  | 4 => .int
  | 5 => .int
  | 6 => .array (.int)
  | 7 => .array (.int)
  | 8 => .int
  | 9 => .int
  | 10 => .long
  | 11 => .int
  | _ => .int
def rc_F3 : u_T := fun k => match k with
  | 0 => ("RecordCalls$KeyMap", "keys", "[LRecordCalls$Row;", true)
  | 1 => ("RecordCalls$KeyMap", "values", "[J", true)
  | _ => ("RecordCalls$KeyMap", "used", "I", false)
def rc_t3 : Nat → FieldType := fun k => match k with
  | 0 => .array (.object "RecordCalls$Row")
  | 1 => .array (.long)
  | _ => .int
def rc_F4 : u_T := fun k => match k with
  | 0 => ("RecordCalls$Reader", "row", "LRecordCalls$Row;", false)
  | 1 => ("RecordCalls$Reader", "at", "I", false)
  | _ => ("RecordCalls$Reader", "good", "Z", false)
def rc_t4 : Nat → FieldType := fun k => match k with
  | 0 => .object "RecordCalls$Row"
  | 1 => .int
  | _ => .boolean
def rc_F5 : u_T := fun k => match k with
  | 0 => ("RecordCalls$Connection", "gathered", "LRecordCalls$Row;", true)
  | 1 => ("RecordCalls$Connection", "replies", "LRecordCalls$Replies;", true)
  | 2 => ("RecordCalls$Connection", "broken", "Z", false)
  | 3 => ("RecordCalls$Connection", "head", "I", false)
  | 4 => ("RecordCalls$Connection", "headBytes", "I", false)
  | _ => ("RecordCalls$Connection", "bytesLeft", "I", false)
def rc_t5 : Nat → FieldType := fun k => match k with
  | 0 => .object "RecordCalls$Row"
  | 1 => .object "RecordCalls$Replies"
  | 2 => .boolean
  | 3 => .int
  | 4 => .int
  | _ => .int
def rc_F6 : u_T := fun k => match k with
  | 0 => ("RecordCalls$Replies", "rows", "[LRecordCalls$Row;", true)
  | 1 => ("RecordCalls$Replies", "numbers", "[I", true)
  | 2 => ("RecordCalls$Replies", "kept", "I", false)
  | _ => ("RecordCalls$Replies", "oldest", "I", false)
def rc_t6 : Nat → FieldType := fun k => match k with
  | 0 => .array (.object "RecordCalls$Row")
  | 1 => .array (.int)
  | 2 => .int
  | _ => .int
def rc_F7 : u_T := fun k => match k with
  | 0 => ("RecordCallsModel", "thrown", "I", false)
  | 1 => ("RecordCallsModel", "tape", "[I", true)
  | 2 => ("RecordCallsModel", "tapeSize", "I", false)
  | 3 => ("RecordCallsModel", "slots", "[B", true)
  | 4 => ("RecordCallsModel", "lengths", "[I", true)
  | 5 => ("RecordCallsModel", "made", "I", false)
  | 6 => ("RecordCallsModel", "pushed", "[B", true)
  | 7 => ("RecordCallsModel", "keyBytes", "[B", true)
  | 8 => ("RecordCallsModel", "keySizes", "[I", true)
  | 9 => ("RecordCallsModel", "values", "[J", true)
  | 10 => ("RecordCallsModel", "keys", "I", false)
  | 11 => ("RecordCallsModel", "records", "[B", true)
  | 12 => ("RecordCallsModel", "sizes", "[I", true)
  | 13 => ("RecordCallsModel", "wordSizes", "[I", true)
  | 14 => ("RecordCallsModel", "words", "[I", true)
  | 15 => ("RecordCallsModel", "left", "[I", true)
  | 16 => ("RecordCallsModel", "last", "[Z", true)
  | 17 => ("RecordCallsModel", "inside", "[Z", true)
  | 18 => ("RecordCallsModel", "broken", "[Z", true)
  | 19 => ("RecordCallsModel", "replyNumber", "[I", true)
  | 20 => ("RecordCallsModel", "replySize", "[I", true)
  | 21 => ("RecordCallsModel", "replyBytes", "[B", true)
  | 22 => ("RecordCallsModel", "replies", "[I", true)
  | 23 => ("RecordCallsModel", "done", "I", false)
  | 24 => ("RecordCallsModel", "repeated", "I", false)
  | 25 => ("RecordCallsModel", "bad", "I", false)
  | 26 => ("RecordCallsModel", "of", "I", false)
  | 27 => ("RecordCallsModel", "at", "I", false)
  | 28 => ("RecordCallsModel", "right", "Z", false)
  | 29 => ("RecordCallsModel", "keyAt", "I", false)
  | 30 => ("RecordCallsModel", "keySize", "I", false)
  | 31 => ("RecordCallsModel", "out", "[B", true)
  | 32 => ("RecordCallsModel", "outSize", "I", false)
  | _ => ("RecordCallsModel", "taken", "I", false)
def rc_t7 : Nat → FieldType := fun k => match k with
  | 0 => .int
  | 1 => .array (.int)
  | 2 => .int
  | 3 => .array (.byte)
  | 4 => .array (.int)
  | 5 => .int
  | 6 => .array (.byte)
  | 7 => .array (.byte)
  | 8 => .array (.int)
  | 9 => .array (.long)
  | 10 => .int
  | 11 => .array (.byte)
  | 12 => .array (.int)
  | 13 => .array (.int)
  | 14 => .array (.int)
  | 15 => .array (.int)
  | 16 => .array (.boolean)
  | 17 => .array (.boolean)
  | 18 => .array (.boolean)
  | 19 => .array (.int)
  | 20 => .array (.int)
  | 21 => .array (.byte)
  | 22 => .array (.int)
  | 23 => .int
  | 24 => .int
  | 25 => .int
  | 26 => .int
  | 27 => .int
  | 28 => .boolean
  | 29 => .int
  | 30 => .int
  | 31 => .array (.byte)
  | 32 => .int
  | _ => .int
def rc_F : Nat → u_T
  | 0 => rc_F0
  | 1 => rc_F1
  | 2 => rc_F2
  | 3 => rc_F3
  | 4 => rc_F4
  | 5 => rc_F5
  | 6 => rc_F6
  | _ => rc_F7
def rc_t : Nat → Nat → FieldType
  | 0 => rc_t0
  | 1 => rc_t1
  | 2 => rc_t2
  | 3 => rc_t3
  | 4 => rc_t4
  | 5 => rc_t5
  | 6 => rc_t6
  | _ => rc_t7
def rc_cl : List vw_C := [(rc_R 0, rc_F 0, rc_N 0), (rc_R 1, rc_F 1, rc_N 1), (rc_R 2, rc_F 2, rc_N 2), (rc_R 3, rc_F 3, rc_N 3), (rc_R 4, rc_F 4, rc_N 4), (rc_R 5, rc_F 5, rc_N 5), (rc_R 6, rc_F 6, rc_N 6), (rc_R 7, rc_F 7, rc_N 7)]
theorem rc_cl_at : ∀ ci, ci < 8 → rc_cl[ci]? = some (rc_R ci, rc_F ci, rc_N ci) := by
  intro ci h
  match ci, h with
  | 0, _ => rfl
  | 1, _ => rfl
  | 2, _ => rfl
  | 3, _ => rfl
  | 4, _ => rfl
  | 5, _ => rfl
  | 6, _ => rfl
  | 7, _ => rfl
theorem rc_in0 : ∀ w ∈ u_ws (rc_R 0) (rc_F 0) (rc_N 0), w ∈ rc_tb := by decide +kernel
theorem rc_in1 : ∀ w ∈ u_ws (rc_R 1) (rc_F 1) (rc_N 1), w ∈ rc_tb := by decide +kernel
theorem rc_in2 : ∀ w ∈ u_ws (rc_R 2) (rc_F 2) (rc_N 2), w ∈ rc_tb := by decide +kernel
theorem rc_in3 : ∀ w ∈ u_ws (rc_R 3) (rc_F 3) (rc_N 3), w ∈ rc_tb := by decide +kernel
theorem rc_in4 : ∀ w ∈ u_ws (rc_R 4) (rc_F 4) (rc_N 4), w ∈ rc_tb := by decide +kernel
theorem rc_in5 : ∀ w ∈ u_ws (rc_R 5) (rc_F 5) (rc_N 5), w ∈ rc_tb := by decide +kernel
theorem rc_in6 : ∀ w ∈ u_ws (rc_R 6) (rc_F 6) (rc_N 6), w ∈ rc_tb := by decide +kernel
theorem rc_in7 : ∀ w ∈ u_ws (rc_R 7) (rc_F 7) (rc_N 7), w ∈ rc_tb := by decide +kernel
theorem rc_in : ∀ ci, ci < 8 → ∀ w ∈ u_ws (rc_R ci) (rc_F ci) (rc_N ci), w ∈ rc_tb := by
  intro ci h
  match ci, h with
  | 0, _ => exact rc_in0
  | 1, _ => exact rc_in1
  | 2, _ => exact rc_in2
  | 3, _ => exact rc_in3
  | 4, _ => exact rc_in4
  | 5, _ => exact rc_in5
  | 6, _ => exact rc_in6
  | 7, _ => exact rc_in7
theorem rc_ty : ∀ ci, ci < 8 → ∀ k, k < rc_N ci → parseFieldDescriptor ((rc_F ci) k).2.2.1 = some (rc_t ci k) := by decide +kernel
theorem rc_nm : ∀ ci, ci < 8 → ∀ a, a < rc_N ci → ∀ b, b < rc_N ci → a ≠ b → ((rc_F ci) a).2.1 ≠ ((rc_F ci) b).2.1 := by decide +kernel
theorem rc_tm1 {w : Cond} (h : w ∈ tables_1_1) (hk : rc_kind w = true) : w ∈ rc_tb := List.mem_filter.mpr ⟨List.mem_append_right _ (List.mem_append_left _ h), hk⟩
theorem rc_tm2 {w : Cond} (h : w ∈ tables_1_2) (hk : rc_kind w = true) : w ∈ rc_tb := List.mem_filter.mpr ⟨List.mem_append_right _ (List.mem_append_right _ (List.mem_append_left _ h)), hk⟩
theorem rc_tm3 {w : Cond} (h : w ∈ tables_1_3) (hk : rc_kind w = true) : w ∈ rc_tb := List.mem_filter.mpr ⟨List.mem_append_right _ (List.mem_append_right _ (List.mem_append_right _ (List.mem_append_left _ h))), hk⟩
theorem rc_tm4 {w : Cond} (h : w ∈ tables_1_4) (hk : rc_kind w = true) : w ∈ rc_tb := List.mem_filter.mpr ⟨List.mem_append_right _ (List.mem_append_right _ (List.mem_append_right _ (List.mem_append_right _ (List.mem_append_left _ h)))), hk⟩
theorem rc_tm5 {w : Cond} (h : w ∈ tables_1_5) (hk : rc_kind w = true) : w ∈ rc_tb := List.mem_filter.mpr ⟨List.mem_append_right _ (List.mem_append_right _ (List.mem_append_right _ (List.mem_append_right _ (List.mem_append_right _ (h))))), hk⟩
set_option maxRecDepth 20000 in
theorem T_0 : (Jvm.Cond.initialized "RecordCallsLaw") ∈ rc_tb := rc_tm1 (List.mem_of_getElem? (i := 0) rfl) rfl
set_option maxRecDepth 20000 in
theorem T_1 : (Jvm.Cond.initialized "RecordCalls") ∈ rc_tb := rc_tm1 (List.mem_of_getElem? (i := 1) rfl) rfl
set_option maxRecDepth 20000 in
theorem T_2 : (Jvm.Cond.initialized "RecordCalls$Row") ∈ rc_tb := rc_tm1 (List.mem_of_getElem? (i := 2) rfl) rfl
set_option maxRecDepth 20000 in
theorem T_3 : (Jvm.Cond.initialized "RecordCalls$Server") ∈ rc_tb := rc_tm1 (List.mem_of_getElem? (i := 3) rfl) rfl
set_option maxRecDepth 20000 in
theorem T_4 : (Jvm.Cond.initialized "RecordCalls$KeyMap") ∈ rc_tb := rc_tm1 (List.mem_of_getElem? (i := 4) rfl) rfl
set_option maxRecDepth 20000 in
theorem T_5 : (Jvm.Cond.initialized "RecordCalls$Reader") ∈ rc_tb := rc_tm1 (List.mem_of_getElem? (i := 5) rfl) rfl
set_option maxRecDepth 20000 in
theorem T_6 : (Jvm.Cond.initialized "RecordCalls$Connection") ∈ rc_tb := rc_tm1 (List.mem_of_getElem? (i := 6) rfl) rfl
set_option maxRecDepth 20000 in
theorem T_7 : (Jvm.Cond.initialized "RecordCalls$Replies") ∈ rc_tb := rc_tm1 (List.mem_of_getElem? (i := 7) rfl) rfl
set_option maxRecDepth 20000 in
theorem T_8 : (Jvm.Cond.initialized "RecordCallsModel") ∈ rc_tb := rc_tm1 (List.mem_of_getElem? (i := 8) rfl) rfl
set_option maxRecDepth 20000 in
theorem T_9 : (Jvm.Cond.initialized "java/lang/Throwable") ∈ rc_tb := rc_tm1 (List.mem_of_getElem? (i := 9) rfl) rfl
set_option maxRecDepth 20000 in
theorem T_10 : (Jvm.Cond.initialized "java/lang/Exception") ∈ rc_tb := rc_tm1 (List.mem_of_getElem? (i := 10) rfl) rfl
set_option maxRecDepth 20000 in
theorem T_11 : (Jvm.Cond.initialized "java/lang/RuntimeException") ∈ rc_tb := rc_tm1 (List.mem_of_getElem? (i := 11) rfl) rfl
set_option maxRecDepth 20000 in
theorem T_12 : (Jvm.Cond.initialized "java/lang/UnsupportedOperationException") ∈ rc_tb := rc_tm1 (List.mem_of_getElem? (i := 12) rfl) rfl
set_option maxRecDepth 20000 in
theorem T_13 : (Jvm.Cond.initialized "java/lang/Math") ∈ rc_tb := rc_tm1 (List.mem_of_getElem? (i := 13) rfl) rfl
set_option maxRecDepth 20000 in
theorem T_14 : (Jvm.Cond.initialized "java/util/Arrays") ∈ rc_tb := rc_tm1 (List.mem_of_getElem? (i := 14) rfl) rfl
set_option maxRecDepth 20000 in
theorem T_15 : (Jvm.Cond.initialized "java/lang/System") ∈ rc_tb := rc_tm1 (List.mem_of_getElem? (i := 15) rfl) rfl
set_option maxRecDepth 20000 in
theorem T_16 : (Jvm.Cond.initialized "java/lang/IllegalArgumentException") ∈ rc_tb := rc_tm1 (List.mem_of_getElem? (i := 16) rfl) rfl
set_option maxRecDepth 20000 in
theorem T_17 : (Jvm.Cond.initialized "java/lang/IndexOutOfBoundsException") ∈ rc_tb := rc_tm1 (List.mem_of_getElem? (i := 17) rfl) rfl
set_option maxRecDepth 20000 in
theorem T_18 : (Jvm.Cond.classLink "RecordCallsLaw" (8 : Nat) "RecordCalls") ∈ rc_tb := rc_tm1 (List.mem_of_getElem? (i := 18) rfl) rfl
set_option maxRecDepth 20000 in
theorem T_19 : (Jvm.Cond.instantiable "RecordCalls" (7 : Nat)) ∈ rc_tb := rc_tm1 (List.mem_of_getElem? (i := 19) rfl) rfl
set_option maxRecDepth 20000 in
theorem T_20 : (Jvm.Cond.methodLink "RecordCallsLaw" (55 : Nat) ({ cls := "RecordCalls", name := "<init>", desc := "()V" } : Jvm.MethodName)) ∈ rc_tb := rc_tm1 (List.mem_of_getElem? (i := 20) rfl) rfl
set_option maxRecDepth 20000 in
theorem T_21 : (Jvm.Cond.instanceMethod ({ cls := "RecordCalls", name := "<init>", desc := "()V" } : Jvm.MethodName)) ∈ rc_tb := rc_tm1 (List.mem_of_getElem? (i := 21) rfl) rfl
set_option maxRecDepth 20000 in
theorem T_22 : (Jvm.Cond.code ({ cls := "RecordCalls", name := "<init>", desc := "()V" } : Jvm.MethodName) prog_1_method_1_code (2 : Nat) (Option.none : Option Jvm.ClassFile.FieldType)) ∈ rc_tb := rc_tm1 (List.mem_of_getElem? (i := 22) rfl) rfl
set_option maxRecDepth 20000 in
theorem T_23 : (Jvm.Cond.methodLink "RecordCalls" (1 : Nat) ({ cls := "java/lang/Object", name := "<init>", desc := "()V" } : Jvm.MethodName)) ∈ rc_tb := rc_tm1 (List.mem_of_getElem? (i := 23) rfl) rfl
set_option maxRecDepth 20000 in
theorem T_24 : (Jvm.Cond.instanceMethod ({ cls := "java/lang/Object", name := "<init>", desc := "()V" } : Jvm.MethodName)) ∈ rc_tb := rc_tm1 (List.mem_of_getElem? (i := 24) rfl) rfl
set_option maxRecDepth 20000 in
theorem T_25 : (Jvm.Cond.code ({ cls := "java/lang/Object", name := "<init>", desc := "()V" } : Jvm.MethodName) object_method_1_code (1 : Nat) (Option.none : Option Jvm.ClassFile.FieldType)) ∈ rc_tb := rc_tm1 (List.mem_of_getElem? (i := 25) rfl) rfl
set_option maxRecDepth 20000 in
theorem T_26 : (Jvm.Cond.classLink "RecordCalls" (7 : Nat) "RecordCalls$Row") ∈ rc_tb := rc_tm1 (List.mem_of_getElem? (i := 26) rfl) rfl
set_option maxRecDepth 20000 in
theorem T_27 : (Jvm.Cond.instantiable "RecordCalls$Row" (2 : Nat)) ∈ rc_tb := rc_tm1 (List.mem_of_getElem? (i := 27) rfl) rfl
set_option maxRecDepth 20000 in
theorem T_28 : (Jvm.Cond.methodLinkNest "RecordCalls" (9 : Nat) ({ cls := "RecordCalls$Row", name := "<init>", desc := "()V" } : Jvm.MethodName) "RecordCalls") ∈ rc_tb := rc_tm1 (List.mem_of_getElem? (i := 28) rfl) rfl
set_option maxRecDepth 20000 in
theorem T_29 : (Jvm.Cond.instanceMethod ({ cls := "RecordCalls$Row", name := "<init>", desc := "()V" } : Jvm.MethodName)) ∈ rc_tb := rc_tm1 (List.mem_of_getElem? (i := 29) rfl) rfl
set_option maxRecDepth 20000 in
theorem T_30 : (Jvm.Cond.code ({ cls := "RecordCalls$Row", name := "<init>", desc := "()V" } : Jvm.MethodName) prog_6_method_1_code (1 : Nat) (Option.none : Option Jvm.ClassFile.FieldType)) ∈ rc_tb := rc_tm1 (List.mem_of_getElem? (i := 30) rfl) rfl
set_option maxRecDepth 20000 in
theorem T_31 : (Jvm.Cond.methodLink "RecordCalls$Row" (3 : Nat) ({ cls := "java/lang/Object", name := "<init>", desc := "()V" } : Jvm.MethodName)) ∈ rc_tb := rc_tm1 (List.mem_of_getElem? (i := 31) rfl) rfl
set_option maxRecDepth 20000 in
theorem T_32 : (Jvm.Cond.fieldLink "RecordCalls$Row" (9 : Nat) "RecordCalls$Row" "bytes" "[B") ∈ rc_tb := rc_tm1 (List.mem_of_getElem? (i := 32) rfl) rfl
set_option maxRecDepth 20000 in
theorem T_33 : (Jvm.Cond.fieldLink "RecordCalls$Row" (15 : Nat) "RecordCalls$Row" "used" "I") ∈ rc_tb := rc_tm1 (List.mem_of_getElem? (i := 33) rfl) rfl
set_option maxRecDepth 20000 in
theorem T_34 : (Jvm.Cond.lays "RecordCalls$Row" "RecordCalls$Row" "bytes" "[B") ∈ rc_tb := rc_tm1 (List.mem_of_getElem? (i := 34) rfl) rfl
set_option maxRecDepth 20000 in
theorem T_35 : (Jvm.Cond.soleField "RecordCalls$Row" "bytes") ∈ rc_tb := rc_tm1 (List.mem_of_getElem? (i := 35) rfl) rfl
set_option maxRecDepth 20000 in
theorem T_36 : (Jvm.Cond.lays "RecordCalls$Row" "RecordCalls$Row" "used" "I") ∈ rc_tb := rc_tm1 (List.mem_of_getElem? (i := 36) rfl) rfl
set_option maxRecDepth 20000 in
theorem T_37 : (Jvm.Cond.soleField "RecordCalls$Row" "used") ∈ rc_tb := rc_tm1 (List.mem_of_getElem? (i := 37) rfl) rfl
set_option maxRecDepth 20000 in
theorem T_38 : (Jvm.Cond.superclass "RecordCalls$Row" "java/lang/Object") ∈ rc_tb := rc_tm1 (List.mem_of_getElem? (i := 38) rfl) rfl
set_option maxRecDepth 20000 in
theorem T_39 : (Jvm.Cond.arrayClass Jvm.ClassFile.FieldType.byte) ∈ rc_tb := rc_tm1 (List.mem_of_getElem? (i := 39) rfl) rfl
set_option maxRecDepth 20000 in
theorem T_40 : (Jvm.Cond.arrayOver (Jvm.ClassFile.FieldType.object "RecordCalls$Row")) ∈ rc_tb := rc_tm1 (List.mem_of_getElem? (i := 40) rfl) rfl
set_option maxRecDepth 20000 in
theorem T_41 : (Jvm.Cond.classLink "RecordCalls" (20 : Nat) "RecordCalls$Connection") ∈ rc_tb := rc_tm1 (List.mem_of_getElem? (i := 41) rfl) rfl
set_option maxRecDepth 20000 in
theorem T_42 : (Jvm.Cond.arrayOver (Jvm.ClassFile.FieldType.object "RecordCalls$Connection")) ∈ rc_tb := rc_tm1 (List.mem_of_getElem? (i := 42) rfl) rfl
set_option maxRecDepth 20000 in
theorem T_43 : (Jvm.Cond.classLink "RecordCalls" (26 : Nat) "RecordCalls$Server") ∈ rc_tb := rc_tm1 (List.mem_of_getElem? (i := 43) rfl) rfl
set_option maxRecDepth 20000 in
theorem T_44 : (Jvm.Cond.instantiable "RecordCalls$Server" (13 : Nat)) ∈ rc_tb := rc_tm1 (List.mem_of_getElem? (i := 44) rfl) rfl
set_option maxRecDepth 20000 in
theorem T_45 : (Jvm.Cond.methodLinkNest "RecordCalls" (28 : Nat) ({ cls := "RecordCalls$Server", name := "<init>", desc := "()V" } : Jvm.MethodName) "RecordCalls") ∈ rc_tb := rc_tm1 (List.mem_of_getElem? (i := 45) rfl) rfl
set_option maxRecDepth 20000 in
theorem T_46 : (Jvm.Cond.instanceMethod ({ cls := "RecordCalls$Server", name := "<init>", desc := "()V" } : Jvm.MethodName)) ∈ rc_tb := rc_tm1 (List.mem_of_getElem? (i := 46) rfl) rfl
set_option maxRecDepth 20000 in
theorem T_47 : (Jvm.Cond.code ({ cls := "RecordCalls$Server", name := "<init>", desc := "()V" } : Jvm.MethodName) prog_7_method_1_code (1 : Nat) (Option.none : Option Jvm.ClassFile.FieldType)) ∈ rc_tb := rc_tm1 (List.mem_of_getElem? (i := 47) rfl) rfl
set_option maxRecDepth 20000 in
theorem T_48 : (Jvm.Cond.methodLink "RecordCalls$Server" (3 : Nat) ({ cls := "java/lang/Object", name := "<init>", desc := "()V" } : Jvm.MethodName)) ∈ rc_tb := rc_tm1 (List.mem_of_getElem? (i := 48) rfl) rfl
set_option maxRecDepth 20000 in
theorem T_49 : (Jvm.Cond.classLink "RecordCalls$Server" (9 : Nat) "RecordCalls$KeyMap") ∈ rc_tb := rc_tm1 (List.mem_of_getElem? (i := 49) rfl) rfl
set_option maxRecDepth 20000 in
theorem T_50 : (Jvm.Cond.instantiable "RecordCalls$KeyMap" (3 : Nat)) ∈ rc_tb := rc_tm1 (List.mem_of_getElem? (i := 50) rfl) rfl
set_option maxRecDepth 20000 in
theorem T_51 : (Jvm.Cond.methodLink "RecordCalls$Server" (11 : Nat) ({ cls := "RecordCalls$KeyMap", name := "<init>", desc := "()V" } : Jvm.MethodName)) ∈ rc_tb := rc_tm1 (List.mem_of_getElem? (i := 51) rfl) rfl
set_option maxRecDepth 20000 in
theorem T_52 : (Jvm.Cond.instanceMethod ({ cls := "RecordCalls$KeyMap", name := "<init>", desc := "()V" } : Jvm.MethodName)) ∈ rc_tb := rc_tm1 (List.mem_of_getElem? (i := 52) rfl) rfl
set_option maxRecDepth 20000 in
theorem T_53 : (Jvm.Cond.code ({ cls := "RecordCalls$KeyMap", name := "<init>", desc := "()V" } : Jvm.MethodName) prog_3_method_1_code (2 : Nat) (Option.none : Option Jvm.ClassFile.FieldType)) ∈ rc_tb := rc_tm1 (List.mem_of_getElem? (i := 53) rfl) rfl
set_option maxRecDepth 20000 in
theorem T_54 : (Jvm.Cond.methodLink "RecordCalls$KeyMap" (3 : Nat) ({ cls := "java/lang/Object", name := "<init>", desc := "()V" } : Jvm.MethodName)) ∈ rc_tb := rc_tm1 (List.mem_of_getElem? (i := 54) rfl) rfl
set_option maxRecDepth 20000 in
theorem T_55 : (Jvm.Cond.classLink "RecordCalls$KeyMap" (9 : Nat) "RecordCalls$Row") ∈ rc_tb := rc_tm1 (List.mem_of_getElem? (i := 55) rfl) rfl
set_option maxRecDepth 20000 in
theorem T_56 : (Jvm.Cond.methodLinkNest "RecordCalls$KeyMap" (25 : Nat) ({ cls := "RecordCalls$Row", name := "<init>", desc := "()V" } : Jvm.MethodName) "RecordCalls") ∈ rc_tb := rc_tm1 (List.mem_of_getElem? (i := 56) rfl) rfl
set_option maxRecDepth 20000 in
theorem T_57 : (Jvm.Cond.fieldLink "RecordCalls$KeyMap" (11 : Nat) "RecordCalls$KeyMap" "keys" "[LRecordCalls$Row;") ∈ rc_tb := rc_tm1 (List.mem_of_getElem? (i := 57) rfl) rfl
set_option maxRecDepth 20000 in
theorem T_58 : (Jvm.Cond.fieldLink "RecordCalls$KeyMap" (17 : Nat) "RecordCalls$KeyMap" "values" "[J") ∈ rc_tb := rc_tm1 (List.mem_of_getElem? (i := 58) rfl) rfl
set_option maxRecDepth 20000 in
theorem T_59 : (Jvm.Cond.fieldLink "RecordCalls$KeyMap" (21 : Nat) "RecordCalls$KeyMap" "used" "I") ∈ rc_tb := rc_tm1 (List.mem_of_getElem? (i := 59) rfl) rfl
set_option maxRecDepth 20000 in
theorem T_60 : (Jvm.Cond.laysFinal "RecordCalls$KeyMap" "RecordCalls$KeyMap" "keys" "[LRecordCalls$Row;") ∈ rc_tb := rc_tm1 (List.mem_of_getElem? (i := 60) rfl) rfl
set_option maxRecDepth 20000 in
theorem T_61 : (Jvm.Cond.soleField "RecordCalls$KeyMap" "keys") ∈ rc_tb := rc_tm1 (List.mem_of_getElem? (i := 61) rfl) rfl
set_option maxRecDepth 20000 in
theorem T_62 : (Jvm.Cond.laysFinal "RecordCalls$KeyMap" "RecordCalls$KeyMap" "values" "[J") ∈ rc_tb := rc_tm1 (List.mem_of_getElem? (i := 62) rfl) rfl
set_option maxRecDepth 20000 in
theorem T_63 : (Jvm.Cond.soleField "RecordCalls$KeyMap" "values") ∈ rc_tb := rc_tm1 (List.mem_of_getElem? (i := 63) rfl) rfl
set_option maxRecDepth 20000 in
theorem T_64 : (Jvm.Cond.lays "RecordCalls$KeyMap" "RecordCalls$KeyMap" "used" "I") ∈ rc_tb := rc_tm1 (List.mem_of_getElem? (i := 64) rfl) rfl
set_option maxRecDepth 20000 in
theorem T_65 : (Jvm.Cond.soleField "RecordCalls$KeyMap" "used") ∈ rc_tb := rc_tm1 (List.mem_of_getElem? (i := 65) rfl) rfl
set_option maxRecDepth 20000 in
theorem T_66 : (Jvm.Cond.superclass "RecordCalls$KeyMap" "java/lang/Object") ∈ rc_tb := rc_tm1 (List.mem_of_getElem? (i := 66) rfl) rfl
set_option maxRecDepth 20000 in
theorem T_67 : (Jvm.Cond.arrayClass Jvm.ClassFile.FieldType.long) ∈ rc_tb := rc_tm1 (List.mem_of_getElem? (i := 67) rfl) rfl
set_option maxRecDepth 20000 in
theorem T_68 : (Jvm.Cond.classLink "RecordCalls$Server" (18 : Nat) "RecordCalls$Reader") ∈ rc_tb := rc_tm1 (List.mem_of_getElem? (i := 68) rfl) rfl
set_option maxRecDepth 20000 in
theorem T_69 : (Jvm.Cond.instantiable "RecordCalls$Reader" (3 : Nat)) ∈ rc_tb := rc_tm1 (List.mem_of_getElem? (i := 69) rfl) rfl
set_option maxRecDepth 20000 in
theorem T_70 : (Jvm.Cond.methodLinkNest "RecordCalls$Server" (20 : Nat) ({ cls := "RecordCalls$Reader", name := "<init>", desc := "()V" } : Jvm.MethodName) "RecordCalls") ∈ rc_tb := rc_tm1 (List.mem_of_getElem? (i := 70) rfl) rfl
set_option maxRecDepth 20000 in
theorem T_71 : (Jvm.Cond.instanceMethod ({ cls := "RecordCalls$Reader", name := "<init>", desc := "()V" } : Jvm.MethodName)) ∈ rc_tb := rc_tm1 (List.mem_of_getElem? (i := 71) rfl) rfl
set_option maxRecDepth 20000 in
theorem T_72 : (Jvm.Cond.code ({ cls := "RecordCalls$Reader", name := "<init>", desc := "()V" } : Jvm.MethodName) prog_4_method_1_code (1 : Nat) (Option.none : Option Jvm.ClassFile.FieldType)) ∈ rc_tb := rc_tm1 (List.mem_of_getElem? (i := 72) rfl) rfl
set_option maxRecDepth 20000 in
theorem T_73 : (Jvm.Cond.methodLink "RecordCalls$Reader" (3 : Nat) ({ cls := "java/lang/Object", name := "<init>", desc := "()V" } : Jvm.MethodName)) ∈ rc_tb := rc_tm1 (List.mem_of_getElem? (i := 73) rfl) rfl
set_option maxRecDepth 20000 in
theorem T_74 : (Jvm.Cond.classLink "RecordCalls$Reader" (9 : Nat) "RecordCalls$Row") ∈ rc_tb := rc_tm1 (List.mem_of_getElem? (i := 74) rfl) rfl
set_option maxRecDepth 20000 in
theorem T_75 : (Jvm.Cond.methodLinkNest "RecordCalls$Reader" (11 : Nat) ({ cls := "RecordCalls$Row", name := "<init>", desc := "()V" } : Jvm.MethodName) "RecordCalls") ∈ rc_tb := rc_tm1 (List.mem_of_getElem? (i := 75) rfl) rfl
set_option maxRecDepth 20000 in
theorem T_76 : (Jvm.Cond.fieldLink "RecordCalls$Reader" (12 : Nat) "RecordCalls$Reader" "row" "LRecordCalls$Row;") ∈ rc_tb := rc_tm1 (List.mem_of_getElem? (i := 76) rfl) rfl
set_option maxRecDepth 20000 in
theorem T_77 : (Jvm.Cond.fieldLink "RecordCalls$Reader" (18 : Nat) "RecordCalls$Reader" "at" "I") ∈ rc_tb := rc_tm1 (List.mem_of_getElem? (i := 77) rfl) rfl
set_option maxRecDepth 20000 in
theorem T_78 : (Jvm.Cond.fieldLink "RecordCalls$Reader" (22 : Nat) "RecordCalls$Reader" "good" "Z") ∈ rc_tb := rc_tm1 (List.mem_of_getElem? (i := 78) rfl) rfl
set_option maxRecDepth 20000 in
theorem T_79 : (Jvm.Cond.lays "RecordCalls$Reader" "RecordCalls$Reader" "row" "LRecordCalls$Row;") ∈ rc_tb := rc_tm1 (List.mem_of_getElem? (i := 79) rfl) rfl
set_option maxRecDepth 20000 in
theorem T_80 : (Jvm.Cond.soleField "RecordCalls$Reader" "row") ∈ rc_tb := rc_tm1 (List.mem_of_getElem? (i := 80) rfl) rfl
set_option maxRecDepth 20000 in
theorem T_81 : (Jvm.Cond.lays "RecordCalls$Reader" "RecordCalls$Reader" "at" "I") ∈ rc_tb := rc_tm1 (List.mem_of_getElem? (i := 81) rfl) rfl
set_option maxRecDepth 20000 in
theorem T_82 : (Jvm.Cond.soleField "RecordCalls$Reader" "at") ∈ rc_tb := rc_tm1 (List.mem_of_getElem? (i := 82) rfl) rfl
set_option maxRecDepth 20000 in
theorem T_83 : (Jvm.Cond.lays "RecordCalls$Reader" "RecordCalls$Reader" "good" "Z") ∈ rc_tb := rc_tm1 (List.mem_of_getElem? (i := 83) rfl) rfl
set_option maxRecDepth 20000 in
theorem T_84 : (Jvm.Cond.soleField "RecordCalls$Reader" "good") ∈ rc_tb := rc_tm1 (List.mem_of_getElem? (i := 84) rfl) rfl
set_option maxRecDepth 20000 in
theorem T_85 : (Jvm.Cond.superclass "RecordCalls$Reader" "java/lang/Object") ∈ rc_tb := rc_tm1 (List.mem_of_getElem? (i := 85) rfl) rfl
set_option maxRecDepth 20000 in
theorem T_86 : (Jvm.Cond.classLink "RecordCalls$Server" (25 : Nat) "RecordCalls$Row") ∈ rc_tb := rc_tm1 (List.mem_of_getElem? (i := 86) rfl) rfl
set_option maxRecDepth 20000 in
theorem T_87 : (Jvm.Cond.methodLinkNest "RecordCalls$Server" (27 : Nat) ({ cls := "RecordCalls$Row", name := "<init>", desc := "()V" } : Jvm.MethodName) "RecordCalls") ∈ rc_tb := rc_tm1 (List.mem_of_getElem? (i := 87) rfl) rfl
set_option maxRecDepth 20000 in
theorem T_88 : (Jvm.Cond.fieldLink "RecordCalls$Server" (12 : Nat) "RecordCalls$Server" "map" "LRecordCalls$KeyMap;") ∈ rc_tb := rc_tm1 (List.mem_of_getElem? (i := 88) rfl) rfl
set_option maxRecDepth 20000 in
theorem T_89 : (Jvm.Cond.fieldLinkNest "RecordCalls" (153 : Nat) "RecordCalls$Server" "map" "LRecordCalls$KeyMap;" "RecordCalls") ∈ rc_tb := rc_tm1 (List.mem_of_getElem? (i := 89) rfl) rfl
set_option maxRecDepth 20000 in
theorem T_90 : (Jvm.Cond.fieldLink "RecordCalls$Server" (21 : Nat) "RecordCalls$Server" "reader" "LRecordCalls$Reader;") ∈ rc_tb := rc_tm1 (List.mem_of_getElem? (i := 90) rfl) rfl
set_option maxRecDepth 20000 in
theorem T_91 : (Jvm.Cond.fieldLink "RecordCalls$Server" (28 : Nat) "RecordCalls$Server" "reply" "LRecordCalls$Row;") ∈ rc_tb := rc_tm1 (List.mem_of_getElem? (i := 91) rfl) rfl
set_option maxRecDepth 20000 in
theorem T_92 : (Jvm.Cond.fieldLink "RecordCalls$Server" (32 : Nat) "RecordCalls$Server" "done" "I") ∈ rc_tb := rc_tm1 (List.mem_of_getElem? (i := 92) rfl) rfl
set_option maxRecDepth 20000 in
theorem T_93 : (Jvm.Cond.fieldLinkNest "RecordCalls" (167 : Nat) "RecordCalls$Server" "done" "I" "RecordCalls") ∈ rc_tb := rc_tm1 (List.mem_of_getElem? (i := 93) rfl) rfl
set_option maxRecDepth 20000 in
theorem T_94 : (Jvm.Cond.fieldLink "RecordCalls$Server" (36 : Nat) "RecordCalls$Server" "repeated" "I") ∈ rc_tb := rc_tm1 (List.mem_of_getElem? (i := 94) rfl) rfl
set_option maxRecDepth 20000 in
theorem T_95 : (Jvm.Cond.fieldLinkNest "RecordCalls" (170 : Nat) "RecordCalls$Server" "repeated" "I" "RecordCalls") ∈ rc_tb := rc_tm1 (List.mem_of_getElem? (i := 95) rfl) rfl
set_option maxRecDepth 20000 in
theorem T_96 : (Jvm.Cond.fieldLink "RecordCalls$Server" (39 : Nat) "RecordCalls$Server" "bad" "I") ∈ rc_tb := rc_tm1 (List.mem_of_getElem? (i := 96) rfl) rfl
set_option maxRecDepth 20000 in
theorem T_97 : (Jvm.Cond.fieldLinkNest "RecordCalls" (173 : Nat) "RecordCalls$Server" "bad" "I" "RecordCalls") ∈ rc_tb := rc_tm1 (List.mem_of_getElem? (i := 97) rfl) rfl
set_option maxRecDepth 20000 in
theorem T_98 : (Jvm.Cond.fieldLink "RecordCalls$Server" (42 : Nat) "RecordCalls$Server" "keyStarts" "[I") ∈ rc_tb := rc_tm1 (List.mem_of_getElem? (i := 98) rfl) rfl
set_option maxRecDepth 20000 in
theorem T_99 : (Jvm.Cond.fieldLink "RecordCalls$Server" (46 : Nat) "RecordCalls$Server" "keySizes" "[I") ∈ rc_tb := rc_tm1 (List.mem_of_getElem? (i := 99) rfl) rfl
set_option maxRecDepth 20000 in
theorem T_100 : (Jvm.Cond.fieldLink "RecordCalls$Server" (49 : Nat) "RecordCalls$Server" "procedure" "I") ∈ rc_tb := rc_tm1 (List.mem_of_getElem? (i := 100) rfl) rfl
set_option maxRecDepth 20000 in
theorem T_101 : (Jvm.Cond.fieldLink "RecordCalls$Server" (52 : Nat) "RecordCalls$Server" "keysTaken" "I") ∈ rc_tb := rc_tm1 (List.mem_of_getElem? (i := 101) rfl) rfl
set_option maxRecDepth 20000 in
theorem T_102 : (Jvm.Cond.fieldLink "RecordCalls$Server" (55 : Nat) "RecordCalls$Server" "longTaken" "J") ∈ rc_tb := rc_tm1 (List.mem_of_getElem? (i := 102) rfl) rfl
set_option maxRecDepth 20000 in
theorem T_103 : (Jvm.Cond.fieldLink "RecordCalls$Server" (59 : Nat) "RecordCalls$Server" "from" "I") ∈ rc_tb := rc_tm1 (List.mem_of_getElem? (i := 103) rfl) rfl
set_option maxRecDepth 20000 in
theorem T_104 : (Jvm.Cond.fieldLink "RecordCalls$Server" (62 : Nat) "RecordCalls$Server" "most" "I") ∈ rc_tb := rc_tm1 (List.mem_of_getElem? (i := 104) rfl) rfl
set_option maxRecDepth 20000 in
theorem T_105 : (Jvm.Cond.laysFinal "RecordCalls$Server" "RecordCalls$Server" "map" "LRecordCalls$KeyMap;") ∈ rc_tb := rc_tm1 (List.mem_of_getElem? (i := 105) rfl) rfl
set_option maxRecDepth 20000 in
theorem T_106 : (Jvm.Cond.soleField "RecordCalls$Server" "map") ∈ rc_tb := rc_tm1 (List.mem_of_getElem? (i := 106) rfl) rfl
set_option maxRecDepth 20000 in
theorem T_107 : (Jvm.Cond.laysFinal "RecordCalls$Server" "RecordCalls$Server" "reader" "LRecordCalls$Reader;") ∈ rc_tb := rc_tm1 (List.mem_of_getElem? (i := 107) rfl) rfl
set_option maxRecDepth 20000 in
theorem T_108 : (Jvm.Cond.soleField "RecordCalls$Server" "reader") ∈ rc_tb := rc_tm1 (List.mem_of_getElem? (i := 108) rfl) rfl
set_option maxRecDepth 20000 in
theorem T_109 : (Jvm.Cond.laysFinal "RecordCalls$Server" "RecordCalls$Server" "reply" "LRecordCalls$Row;") ∈ rc_tb := rc_tm1 (List.mem_of_getElem? (i := 109) rfl) rfl
set_option maxRecDepth 20000 in
theorem T_110 : (Jvm.Cond.soleField "RecordCalls$Server" "reply") ∈ rc_tb := rc_tm1 (List.mem_of_getElem? (i := 110) rfl) rfl
set_option maxRecDepth 20000 in
theorem T_111 : (Jvm.Cond.lays "RecordCalls$Server" "RecordCalls$Server" "done" "I") ∈ rc_tb := rc_tm1 (List.mem_of_getElem? (i := 111) rfl) rfl
set_option maxRecDepth 20000 in
theorem T_112 : (Jvm.Cond.soleField "RecordCalls$Server" "done") ∈ rc_tb := rc_tm1 (List.mem_of_getElem? (i := 112) rfl) rfl
set_option maxRecDepth 20000 in
theorem T_113 : (Jvm.Cond.lays "RecordCalls$Server" "RecordCalls$Server" "repeated" "I") ∈ rc_tb := rc_tm1 (List.mem_of_getElem? (i := 113) rfl) rfl
set_option maxRecDepth 20000 in
theorem T_114 : (Jvm.Cond.soleField "RecordCalls$Server" "repeated") ∈ rc_tb := rc_tm1 (List.mem_of_getElem? (i := 114) rfl) rfl
set_option maxRecDepth 20000 in
theorem T_115 : (Jvm.Cond.lays "RecordCalls$Server" "RecordCalls$Server" "bad" "I") ∈ rc_tb := rc_tm1 (List.mem_of_getElem? (i := 115) rfl) rfl
set_option maxRecDepth 20000 in
theorem T_116 : (Jvm.Cond.soleField "RecordCalls$Server" "bad") ∈ rc_tb := rc_tm1 (List.mem_of_getElem? (i := 116) rfl) rfl
set_option maxRecDepth 20000 in
theorem T_117 : (Jvm.Cond.laysFinal "RecordCalls$Server" "RecordCalls$Server" "keyStarts" "[I") ∈ rc_tb := rc_tm1 (List.mem_of_getElem? (i := 117) rfl) rfl
set_option maxRecDepth 20000 in
theorem T_118 : (Jvm.Cond.soleField "RecordCalls$Server" "keyStarts") ∈ rc_tb := rc_tm1 (List.mem_of_getElem? (i := 118) rfl) rfl
set_option maxRecDepth 20000 in
theorem T_119 : (Jvm.Cond.laysFinal "RecordCalls$Server" "RecordCalls$Server" "keySizes" "[I") ∈ rc_tb := rc_tm1 (List.mem_of_getElem? (i := 119) rfl) rfl
set_option maxRecDepth 20000 in
theorem T_120 : (Jvm.Cond.soleField "RecordCalls$Server" "keySizes") ∈ rc_tb := rc_tm1 (List.mem_of_getElem? (i := 120) rfl) rfl
set_option maxRecDepth 20000 in
theorem T_121 : (Jvm.Cond.lays "RecordCalls$Server" "RecordCalls$Server" "procedure" "I") ∈ rc_tb := rc_tm1 (List.mem_of_getElem? (i := 121) rfl) rfl
set_option maxRecDepth 20000 in
theorem T_122 : (Jvm.Cond.soleField "RecordCalls$Server" "procedure") ∈ rc_tb := rc_tm1 (List.mem_of_getElem? (i := 122) rfl) rfl
set_option maxRecDepth 20000 in
theorem T_123 : (Jvm.Cond.lays "RecordCalls$Server" "RecordCalls$Server" "keysTaken" "I") ∈ rc_tb := rc_tm1 (List.mem_of_getElem? (i := 123) rfl) rfl
set_option maxRecDepth 20000 in
theorem T_124 : (Jvm.Cond.soleField "RecordCalls$Server" "keysTaken") ∈ rc_tb := rc_tm1 (List.mem_of_getElem? (i := 124) rfl) rfl
set_option maxRecDepth 20000 in
theorem T_125 : (Jvm.Cond.lays "RecordCalls$Server" "RecordCalls$Server" "longTaken" "J") ∈ rc_tb := rc_tm1 (List.mem_of_getElem? (i := 125) rfl) rfl
set_option maxRecDepth 20000 in
theorem T_126 : (Jvm.Cond.soleField "RecordCalls$Server" "longTaken") ∈ rc_tb := rc_tm1 (List.mem_of_getElem? (i := 126) rfl) rfl
set_option maxRecDepth 20000 in
theorem T_127 : (Jvm.Cond.lays "RecordCalls$Server" "RecordCalls$Server" "from" "I") ∈ rc_tb := rc_tm1 (List.mem_of_getElem? (i := 127) rfl) rfl
set_option maxRecDepth 20000 in
theorem T_128 : (Jvm.Cond.soleField "RecordCalls$Server" "from") ∈ rc_tb := rc_tm1 (List.mem_of_getElem? (i := 128) rfl) rfl
set_option maxRecDepth 20000 in
theorem T_129 : (Jvm.Cond.lays "RecordCalls$Server" "RecordCalls$Server" "most" "I") ∈ rc_tb := rc_tm1 (List.mem_of_getElem? (i := 129) rfl) rfl
set_option maxRecDepth 20000 in
theorem T_130 : (Jvm.Cond.soleField "RecordCalls$Server" "most") ∈ rc_tb := rc_tm1 (List.mem_of_getElem? (i := 130) rfl) rfl
set_option maxRecDepth 20000 in
theorem T_131 : (Jvm.Cond.superclass "RecordCalls$Server" "java/lang/Object") ∈ rc_tb := rc_tm1 (List.mem_of_getElem? (i := 131) rfl) rfl
set_option maxRecDepth 20000 in
theorem T_132 : (Jvm.Cond.arrayClass Jvm.ClassFile.FieldType.int) ∈ rc_tb := rc_tm1 (List.mem_of_getElem? (i := 132) rfl) rfl
set_option maxRecDepth 20000 in
theorem T_133 : (Jvm.Cond.instantiable "RecordCalls$Connection" (6 : Nat)) ∈ rc_tb := rc_tm1 (List.mem_of_getElem? (i := 133) rfl) rfl
set_option maxRecDepth 20000 in
theorem T_134 : (Jvm.Cond.methodLinkNest "RecordCalls" (43 : Nat) ({ cls := "RecordCalls$Connection", name := "<init>", desc := "()V" } : Jvm.MethodName) "RecordCalls") ∈ rc_tb := rc_tm1 (List.mem_of_getElem? (i := 134) rfl) rfl
set_option maxRecDepth 20000 in
theorem T_135 : (Jvm.Cond.instanceMethod ({ cls := "RecordCalls$Connection", name := "<init>", desc := "()V" } : Jvm.MethodName)) ∈ rc_tb := rc_tm1 (List.mem_of_getElem? (i := 135) rfl) rfl
set_option maxRecDepth 20000 in
theorem T_136 : (Jvm.Cond.code ({ cls := "RecordCalls$Connection", name := "<init>", desc := "()V" } : Jvm.MethodName) prog_2_method_1_code (1 : Nat) (Option.none : Option Jvm.ClassFile.FieldType)) ∈ rc_tb := rc_tm1 (List.mem_of_getElem? (i := 136) rfl) rfl
set_option maxRecDepth 20000 in
theorem T_137 : (Jvm.Cond.methodLink "RecordCalls$Connection" (3 : Nat) ({ cls := "java/lang/Object", name := "<init>", desc := "()V" } : Jvm.MethodName)) ∈ rc_tb := rc_tm1 (List.mem_of_getElem? (i := 137) rfl) rfl
set_option maxRecDepth 20000 in
theorem T_138 : (Jvm.Cond.classLink "RecordCalls$Connection" (9 : Nat) "RecordCalls$Row") ∈ rc_tb := rc_tm1 (List.mem_of_getElem? (i := 138) rfl) rfl
set_option maxRecDepth 20000 in
theorem T_139 : (Jvm.Cond.methodLinkNest "RecordCalls$Connection" (11 : Nat) ({ cls := "RecordCalls$Row", name := "<init>", desc := "()V" } : Jvm.MethodName) "RecordCalls") ∈ rc_tb := rc_tm1 (List.mem_of_getElem? (i := 139) rfl) rfl
set_option maxRecDepth 20000 in
theorem T_140 : (Jvm.Cond.classLink "RecordCalls$Connection" (18 : Nat) "RecordCalls$Replies") ∈ rc_tb := rc_tm1 (List.mem_of_getElem? (i := 140) rfl) rfl
set_option maxRecDepth 20000 in
theorem T_141 : (Jvm.Cond.instantiable "RecordCalls$Replies" (4 : Nat)) ∈ rc_tb := rc_tm1 (List.mem_of_getElem? (i := 141) rfl) rfl
set_option maxRecDepth 20000 in
theorem T_142 : (Jvm.Cond.methodLink "RecordCalls$Connection" (20 : Nat) ({ cls := "RecordCalls$Replies", name := "<init>", desc := "()V" } : Jvm.MethodName)) ∈ rc_tb := rc_tm1 (List.mem_of_getElem? (i := 142) rfl) rfl
set_option maxRecDepth 20000 in
theorem T_143 : (Jvm.Cond.instanceMethod ({ cls := "RecordCalls$Replies", name := "<init>", desc := "()V" } : Jvm.MethodName)) ∈ rc_tb := rc_tm1 (List.mem_of_getElem? (i := 143) rfl) rfl
set_option maxRecDepth 20000 in
theorem T_144 : (Jvm.Cond.code ({ cls := "RecordCalls$Replies", name := "<init>", desc := "()V" } : Jvm.MethodName) prog_5_method_1_code (2 : Nat) (Option.none : Option Jvm.ClassFile.FieldType)) ∈ rc_tb := rc_tm1 (List.mem_of_getElem? (i := 144) rfl) rfl
set_option maxRecDepth 20000 in
theorem T_145 : (Jvm.Cond.methodLink "RecordCalls$Replies" (3 : Nat) ({ cls := "java/lang/Object", name := "<init>", desc := "()V" } : Jvm.MethodName)) ∈ rc_tb := rc_tm1 (List.mem_of_getElem? (i := 145) rfl) rfl
set_option maxRecDepth 20000 in
theorem T_146 : (Jvm.Cond.classLink "RecordCalls$Replies" (9 : Nat) "RecordCalls$Row") ∈ rc_tb := rc_tm1 (List.mem_of_getElem? (i := 146) rfl) rfl
set_option maxRecDepth 20000 in
theorem T_147 : (Jvm.Cond.methodLinkNest "RecordCalls$Replies" (28 : Nat) ({ cls := "RecordCalls$Row", name := "<init>", desc := "()V" } : Jvm.MethodName) "RecordCalls") ∈ rc_tb := rc_tm1 (List.mem_of_getElem? (i := 147) rfl) rfl
set_option maxRecDepth 20000 in
theorem T_148 : (Jvm.Cond.fieldLink "RecordCalls$Replies" (11 : Nat) "RecordCalls$Replies" "rows" "[LRecordCalls$Row;") ∈ rc_tb := rc_tm1 (List.mem_of_getElem? (i := 148) rfl) rfl
set_option maxRecDepth 20000 in
theorem T_149 : (Jvm.Cond.fieldLink "RecordCalls$Replies" (17 : Nat) "RecordCalls$Replies" "numbers" "[I") ∈ rc_tb := rc_tm1 (List.mem_of_getElem? (i := 149) rfl) rfl
set_option maxRecDepth 20000 in
theorem T_150 : (Jvm.Cond.fieldLink "RecordCalls$Replies" (21 : Nat) "RecordCalls$Replies" "kept" "I") ∈ rc_tb := rc_tm1 (List.mem_of_getElem? (i := 150) rfl) rfl
set_option maxRecDepth 20000 in
theorem T_151 : (Jvm.Cond.fieldLink "RecordCalls$Replies" (25 : Nat) "RecordCalls$Replies" "oldest" "I") ∈ rc_tb := rc_tm1 (List.mem_of_getElem? (i := 151) rfl) rfl
set_option maxRecDepth 20000 in
theorem T_152 : (Jvm.Cond.laysFinal "RecordCalls$Replies" "RecordCalls$Replies" "rows" "[LRecordCalls$Row;") ∈ rc_tb := rc_tm1 (List.mem_of_getElem? (i := 152) rfl) rfl
set_option maxRecDepth 20000 in
theorem T_153 : (Jvm.Cond.soleField "RecordCalls$Replies" "rows") ∈ rc_tb := rc_tm1 (List.mem_of_getElem? (i := 153) rfl) rfl
set_option maxRecDepth 20000 in
theorem T_154 : (Jvm.Cond.laysFinal "RecordCalls$Replies" "RecordCalls$Replies" "numbers" "[I") ∈ rc_tb := rc_tm1 (List.mem_of_getElem? (i := 154) rfl) rfl
set_option maxRecDepth 20000 in
theorem T_155 : (Jvm.Cond.soleField "RecordCalls$Replies" "numbers") ∈ rc_tb := rc_tm1 (List.mem_of_getElem? (i := 155) rfl) rfl
set_option maxRecDepth 20000 in
theorem T_156 : (Jvm.Cond.lays "RecordCalls$Replies" "RecordCalls$Replies" "kept" "I") ∈ rc_tb := rc_tm1 (List.mem_of_getElem? (i := 156) rfl) rfl
set_option maxRecDepth 20000 in
theorem T_157 : (Jvm.Cond.soleField "RecordCalls$Replies" "kept") ∈ rc_tb := rc_tm1 (List.mem_of_getElem? (i := 157) rfl) rfl
set_option maxRecDepth 20000 in
theorem T_158 : (Jvm.Cond.lays "RecordCalls$Replies" "RecordCalls$Replies" "oldest" "I") ∈ rc_tb := rc_tm1 (List.mem_of_getElem? (i := 158) rfl) rfl
set_option maxRecDepth 20000 in
theorem T_159 : (Jvm.Cond.soleField "RecordCalls$Replies" "oldest") ∈ rc_tb := rc_tm1 (List.mem_of_getElem? (i := 159) rfl) rfl
set_option maxRecDepth 20000 in
theorem T_160 : (Jvm.Cond.superclass "RecordCalls$Replies" "java/lang/Object") ∈ rc_tb := rc_tm1 (List.mem_of_getElem? (i := 160) rfl) rfl
set_option maxRecDepth 20000 in
theorem T_161 : (Jvm.Cond.fieldLink "RecordCalls$Connection" (12 : Nat) "RecordCalls$Connection" "gathered" "LRecordCalls$Row;") ∈ rc_tb := rc_tm1 (List.mem_of_getElem? (i := 161) rfl) rfl
set_option maxRecDepth 20000 in
theorem T_162 : (Jvm.Cond.fieldLinkNest "RecordCalls" (121 : Nat) "RecordCalls$Connection" "gathered" "LRecordCalls$Row;" "RecordCalls") ∈ rc_tb := rc_tm1 (List.mem_of_getElem? (i := 162) rfl) rfl
set_option maxRecDepth 20000 in
theorem T_163 : (Jvm.Cond.fieldLink "RecordCalls$Connection" (21 : Nat) "RecordCalls$Connection" "replies" "LRecordCalls$Replies;") ∈ rc_tb := rc_tm1 (List.mem_of_getElem? (i := 163) rfl) rfl
set_option maxRecDepth 20000 in
theorem T_164 : (Jvm.Cond.fieldLinkNest "RecordCalls" (124 : Nat) "RecordCalls$Connection" "replies" "LRecordCalls$Replies;" "RecordCalls") ∈ rc_tb := rc_tm1 (List.mem_of_getElem? (i := 164) rfl) rfl
set_option maxRecDepth 20000 in
theorem T_165 : (Jvm.Cond.fieldLink "RecordCalls$Connection" (25 : Nat) "RecordCalls$Connection" "broken" "Z") ∈ rc_tb := rc_tm1 (List.mem_of_getElem? (i := 165) rfl) rfl
set_option maxRecDepth 20000 in
theorem T_166 : (Jvm.Cond.fieldLink "RecordCalls$Connection" (29 : Nat) "RecordCalls$Connection" "head" "I") ∈ rc_tb := rc_tm1 (List.mem_of_getElem? (i := 166) rfl) rfl
set_option maxRecDepth 20000 in
theorem T_167 : (Jvm.Cond.fieldLink "RecordCalls$Connection" (33 : Nat) "RecordCalls$Connection" "headBytes" "I") ∈ rc_tb := rc_tm1 (List.mem_of_getElem? (i := 167) rfl) rfl
set_option maxRecDepth 20000 in
theorem T_168 : (Jvm.Cond.fieldLink "RecordCalls$Connection" (36 : Nat) "RecordCalls$Connection" "bytesLeft" "I") ∈ rc_tb := rc_tm1 (List.mem_of_getElem? (i := 168) rfl) rfl
set_option maxRecDepth 20000 in
theorem T_169 : (Jvm.Cond.laysFinal "RecordCalls$Connection" "RecordCalls$Connection" "gathered" "LRecordCalls$Row;") ∈ rc_tb := rc_tm1 (List.mem_of_getElem? (i := 169) rfl) rfl
set_option maxRecDepth 20000 in
theorem T_170 : (Jvm.Cond.soleField "RecordCalls$Connection" "gathered") ∈ rc_tb := rc_tm1 (List.mem_of_getElem? (i := 170) rfl) rfl
set_option maxRecDepth 20000 in
theorem T_171 : (Jvm.Cond.laysFinal "RecordCalls$Connection" "RecordCalls$Connection" "replies" "LRecordCalls$Replies;") ∈ rc_tb := rc_tm1 (List.mem_of_getElem? (i := 171) rfl) rfl
set_option maxRecDepth 20000 in
theorem T_172 : (Jvm.Cond.soleField "RecordCalls$Connection" "replies") ∈ rc_tb := rc_tm1 (List.mem_of_getElem? (i := 172) rfl) rfl
set_option maxRecDepth 20000 in
theorem T_173 : (Jvm.Cond.lays "RecordCalls$Connection" "RecordCalls$Connection" "broken" "Z") ∈ rc_tb := rc_tm1 (List.mem_of_getElem? (i := 173) rfl) rfl
set_option maxRecDepth 20000 in
theorem T_174 : (Jvm.Cond.soleField "RecordCalls$Connection" "broken") ∈ rc_tb := rc_tm1 (List.mem_of_getElem? (i := 174) rfl) rfl
set_option maxRecDepth 20000 in
theorem T_175 : (Jvm.Cond.lays "RecordCalls$Connection" "RecordCalls$Connection" "head" "I") ∈ rc_tb := rc_tm1 (List.mem_of_getElem? (i := 175) rfl) rfl
set_option maxRecDepth 20000 in
theorem T_176 : (Jvm.Cond.soleField "RecordCalls$Connection" "head") ∈ rc_tb := rc_tm1 (List.mem_of_getElem? (i := 176) rfl) rfl
set_option maxRecDepth 20000 in
theorem T_177 : (Jvm.Cond.lays "RecordCalls$Connection" "RecordCalls$Connection" "headBytes" "I") ∈ rc_tb := rc_tm1 (List.mem_of_getElem? (i := 177) rfl) rfl
set_option maxRecDepth 20000 in
theorem T_178 : (Jvm.Cond.soleField "RecordCalls$Connection" "headBytes") ∈ rc_tb := rc_tm1 (List.mem_of_getElem? (i := 178) rfl) rfl
set_option maxRecDepth 20000 in
theorem T_179 : (Jvm.Cond.lays "RecordCalls$Connection" "RecordCalls$Connection" "bytesLeft" "I") ∈ rc_tb := rc_tm1 (List.mem_of_getElem? (i := 179) rfl) rfl
set_option maxRecDepth 20000 in
theorem T_180 : (Jvm.Cond.soleField "RecordCalls$Connection" "bytesLeft") ∈ rc_tb := rc_tm1 (List.mem_of_getElem? (i := 180) rfl) rfl
set_option maxRecDepth 20000 in
theorem T_181 : (Jvm.Cond.superclass "RecordCalls$Connection" "java/lang/Object") ∈ rc_tb := rc_tm1 (List.mem_of_getElem? (i := 181) rfl) rfl
set_option maxRecDepth 20000 in
theorem T_182 : (Jvm.Cond.fieldLink "RecordCalls" (10 : Nat) "RecordCalls" "tape" "LRecordCalls$Row;") ∈ rc_tb := rc_tm1 (List.mem_of_getElem? (i := 182) rfl) rfl
set_option maxRecDepth 20000 in
theorem T_183 : (Jvm.Cond.fieldLink "RecordCalls" (16 : Nat) "RecordCalls" "slots" "[LRecordCalls$Row;") ∈ rc_tb := rc_tm1 (List.mem_of_getElem? (i := 183) rfl) rfl
set_option maxRecDepth 20000 in
theorem T_184 : (Jvm.Cond.fieldLink "RecordCalls" (22 : Nat) "RecordCalls" "connections" "[LRecordCalls$Connection;") ∈ rc_tb := rc_tm1 (List.mem_of_getElem? (i := 184) rfl) rfl
set_option maxRecDepth 20000 in
theorem T_185 : (Jvm.Cond.fieldLink "RecordCalls" (29 : Nat) "RecordCalls" "server" "LRecordCalls$Server;") ∈ rc_tb := rc_tm1 (List.mem_of_getElem? (i := 185) rfl) rfl
set_option maxRecDepth 20000 in
theorem T_186 : (Jvm.Cond.fieldLink "RecordCalls" (33 : Nat) "RecordCalls" "pushed" "LRecordCalls$Row;") ∈ rc_tb := rc_tm1 (List.mem_of_getElem? (i := 186) rfl) rfl
set_option maxRecDepth 20000 in
theorem T_187 : (Jvm.Cond.fieldLink "RecordCalls" (36 : Nat) "RecordCalls" "joined" "LRecordCalls$Row;") ∈ rc_tb := rc_tm1 (List.mem_of_getElem? (i := 187) rfl) rfl
set_option maxRecDepth 20000 in
theorem T_188 : (Jvm.Cond.fieldLink "RecordCalls" (39 : Nat) "RecordCalls" "slotsMade" "I") ∈ rc_tb := rc_tm1 (List.mem_of_getElem? (i := 188) rfl) rfl
set_option maxRecDepth 20000 in
theorem T_189 : (Jvm.Cond.laysFinal "RecordCalls" "RecordCalls" "tape" "LRecordCalls$Row;") ∈ rc_tb := rc_tm1 (List.mem_of_getElem? (i := 189) rfl) rfl
set_option maxRecDepth 20000 in
theorem T_190 : (Jvm.Cond.soleField "RecordCalls" "tape") ∈ rc_tb := rc_tm1 (List.mem_of_getElem? (i := 190) rfl) rfl
set_option maxRecDepth 20000 in
theorem T_191 : (Jvm.Cond.laysFinal "RecordCalls" "RecordCalls" "slots" "[LRecordCalls$Row;") ∈ rc_tb := rc_tm1 (List.mem_of_getElem? (i := 191) rfl) rfl
set_option maxRecDepth 20000 in
theorem T_192 : (Jvm.Cond.soleField "RecordCalls" "slots") ∈ rc_tb := rc_tm1 (List.mem_of_getElem? (i := 192) rfl) rfl
set_option maxRecDepth 20000 in
theorem T_193 : (Jvm.Cond.laysFinal "RecordCalls" "RecordCalls" "connections" "[LRecordCalls$Connection;") ∈ rc_tb := rc_tm1 (List.mem_of_getElem? (i := 193) rfl) rfl
set_option maxRecDepth 20000 in
theorem T_194 : (Jvm.Cond.soleField "RecordCalls" "connections") ∈ rc_tb := rc_tm1 (List.mem_of_getElem? (i := 194) rfl) rfl
set_option maxRecDepth 20000 in
theorem T_195 : (Jvm.Cond.laysFinal "RecordCalls" "RecordCalls" "server" "LRecordCalls$Server;") ∈ rc_tb := rc_tm1 (List.mem_of_getElem? (i := 195) rfl) rfl
set_option maxRecDepth 20000 in
theorem T_196 : (Jvm.Cond.soleField "RecordCalls" "server") ∈ rc_tb := rc_tm1 (List.mem_of_getElem? (i := 196) rfl) rfl
set_option maxRecDepth 20000 in
theorem T_197 : (Jvm.Cond.laysFinal "RecordCalls" "RecordCalls" "pushed" "LRecordCalls$Row;") ∈ rc_tb := rc_tm1 (List.mem_of_getElem? (i := 197) rfl) rfl
set_option maxRecDepth 20000 in
theorem T_198 : (Jvm.Cond.soleField "RecordCalls" "pushed") ∈ rc_tb := rc_tm1 (List.mem_of_getElem? (i := 198) rfl) rfl
set_option maxRecDepth 20000 in
theorem T_199 : (Jvm.Cond.laysFinal "RecordCalls" "RecordCalls" "joined" "LRecordCalls$Row;") ∈ rc_tb := rc_tm1 (List.mem_of_getElem? (i := 199) rfl) rfl
set_option maxRecDepth 20000 in
theorem T_200 : (Jvm.Cond.soleField "RecordCalls" "joined") ∈ rc_tb := rc_tm1 (List.mem_of_getElem? (i := 200) rfl) rfl
set_option maxRecDepth 20000 in
theorem T_201 : (Jvm.Cond.lays "RecordCalls" "RecordCalls" "slotsMade" "I") ∈ rc_tb := rc_tm1 (List.mem_of_getElem? (i := 201) rfl) rfl
set_option maxRecDepth 20000 in
theorem T_202 : (Jvm.Cond.soleField "RecordCalls" "slotsMade") ∈ rc_tb := rc_tm1 (List.mem_of_getElem? (i := 202) rfl) rfl
set_option maxRecDepth 20000 in
theorem T_203 : (Jvm.Cond.superclass "RecordCalls" "java/lang/Object") ∈ rc_tb := rc_tm1 (List.mem_of_getElem? (i := 203) rfl) rfl
set_option maxRecDepth 20000 in
theorem T_204 : (Jvm.Cond.methodLink "RecordCallsLaw" (73 : Nat) ({ cls := "RecordCalls", name := "raw", desc := "()I" } : Jvm.MethodName)) ∈ rc_tb := rc_tm1 (List.mem_of_getElem? (i := 204) rfl) rfl
set_option maxRecDepth 20000 in
theorem T_205 : (Jvm.Cond.instanceMethod ({ cls := "RecordCalls", name := "raw", desc := "()I" } : Jvm.MethodName)) ∈ rc_tb := rc_tm1 (List.mem_of_getElem? (i := 205) rfl) rfl
set_option maxRecDepth 20000 in
theorem T_206 : (Jvm.Cond.selects "RecordCalls" ({ cls := "RecordCalls", name := "raw", desc := "()I" } : Jvm.MethodName) ({ cls := "RecordCalls", name := "raw", desc := "()I" } : Jvm.MethodName)) ∈ rc_tb := rc_tm1 (List.mem_of_getElem? (i := 206) rfl) rfl
set_option maxRecDepth 20000 in
theorem T_207 : (Jvm.Cond.code ({ cls := "RecordCalls", name := "raw", desc := "()I" } : Jvm.MethodName) prog_1_method_4_code (1 : Nat) (Option.some Jvm.ClassFile.FieldType.int)) ∈ rc_tb := rc_tm1 (List.mem_of_getElem? (i := 207) rfl) rfl
set_option maxRecDepth 20000 in
theorem T_208 : (Jvm.Cond.methodLink "RecordCalls" (61 : Nat) ({ cls := "RecordCalls", name := "newSlot", desc := "()LRecordCalls$Row;" } : Jvm.MethodName)) ∈ rc_tb := rc_tm1 (List.mem_of_getElem? (i := 208) rfl) rfl
set_option maxRecDepth 20000 in
theorem T_209 : (Jvm.Cond.privateMethod ({ cls := "RecordCalls", name := "newSlot", desc := "()LRecordCalls$Row;" } : Jvm.MethodName)) ∈ rc_tb := rc_tm1 (List.mem_of_getElem? (i := 209) rfl) rfl
set_option maxRecDepth 20000 in
theorem T_210 : (Jvm.Cond.instanceMethod ({ cls := "RecordCalls", name := "newSlot", desc := "()LRecordCalls$Row;" } : Jvm.MethodName)) ∈ rc_tb := rc_tm1 (List.mem_of_getElem? (i := 210) rfl) rfl
set_option maxRecDepth 20000 in
theorem T_211 : (Jvm.Cond.code ({ cls := "RecordCalls", name := "newSlot", desc := "()LRecordCalls$Row;" } : Jvm.MethodName) prog_1_method_19_code (2 : Nat) (Option.some (Jvm.ClassFile.FieldType.object "RecordCalls$Row"))) ∈ rc_tb := rc_tm1 (List.mem_of_getElem? (i := 211) rfl) rfl
set_option maxRecDepth 20000 in
theorem T_212 : (Jvm.Cond.methodLink "RecordCalls" (110 : Nat) ({ cls := "RecordCalls", name := "slotRow", desc := "(I)LRecordCalls$Row;" } : Jvm.MethodName)) ∈ rc_tb := rc_tm1 (List.mem_of_getElem? (i := 212) rfl) rfl
set_option maxRecDepth 20000 in
theorem T_213 : (Jvm.Cond.privateMethod ({ cls := "RecordCalls", name := "slotRow", desc := "(I)LRecordCalls$Row;" } : Jvm.MethodName)) ∈ rc_tb := rc_tm1 (List.mem_of_getElem? (i := 213) rfl) rfl
set_option maxRecDepth 20000 in
theorem T_214 : (Jvm.Cond.instanceMethod ({ cls := "RecordCalls", name := "slotRow", desc := "(I)LRecordCalls$Row;" } : Jvm.MethodName)) ∈ rc_tb := rc_tm1 (List.mem_of_getElem? (i := 214) rfl) rfl
set_option maxRecDepth 20000 in
theorem T_215 : (Jvm.Cond.code ({ cls := "RecordCalls", name := "slotRow", desc := "(I)LRecordCalls$Row;" } : Jvm.MethodName) prog_1_method_18_code (2 : Nat) (Option.some (Jvm.ClassFile.FieldType.object "RecordCalls$Row"))) ∈ rc_tb := rc_tm1 (List.mem_of_getElem? (i := 215) rfl) rfl
set_option maxRecDepth 20000 in
theorem T_216 : (Jvm.Cond.methodLink "RecordCalls" (82 : Nat) ({ cls := "RecordCalls$Row", name := "clear", desc := "()V" } : Jvm.MethodName)) ∈ rc_tb := rc_tm1 (List.mem_of_getElem? (i := 216) rfl) rfl
set_option maxRecDepth 20000 in
theorem T_217 : (Jvm.Cond.instanceMethod ({ cls := "RecordCalls$Row", name := "clear", desc := "()V" } : Jvm.MethodName)) ∈ rc_tb := rc_tm1 (List.mem_of_getElem? (i := 217) rfl) rfl
set_option maxRecDepth 20000 in
theorem T_218 : (Jvm.Cond.selects "RecordCalls$Row" ({ cls := "RecordCalls$Row", name := "clear", desc := "()V" } : Jvm.MethodName) ({ cls := "RecordCalls$Row", name := "clear", desc := "()V" } : Jvm.MethodName)) ∈ rc_tb := rc_tm1 (List.mem_of_getElem? (i := 218) rfl) rfl
set_option maxRecDepth 20000 in
theorem T_219 : (Jvm.Cond.code ({ cls := "RecordCalls$Row", name := "clear", desc := "()V" } : Jvm.MethodName) prog_6_method_3_code (1 : Nat) (Option.none : Option Jvm.ClassFile.FieldType)) ∈ rc_tb := rc_tm1 (List.mem_of_getElem? (i := 219) rfl) rfl
set_option maxRecDepth 20000 in
theorem T_220 : (Jvm.Cond.methodLink "RecordCalls" (44 : Nat) ({ cls := "RecordCalls$Row", name := "size", desc := "()I" } : Jvm.MethodName)) ∈ rc_tb := rc_tm1 (List.mem_of_getElem? (i := 220) rfl) rfl
set_option maxRecDepth 20000 in
theorem T_221 : (Jvm.Cond.instanceMethod ({ cls := "RecordCalls$Row", name := "size", desc := "()I" } : Jvm.MethodName)) ∈ rc_tb := rc_tm1 (List.mem_of_getElem? (i := 221) rfl) rfl
set_option maxRecDepth 20000 in
theorem T_222 : (Jvm.Cond.selects "RecordCalls$Row" ({ cls := "RecordCalls$Row", name := "size", desc := "()I" } : Jvm.MethodName) ({ cls := "RecordCalls$Row", name := "size", desc := "()I" } : Jvm.MethodName)) ∈ rc_tb := rc_tm1 (List.mem_of_getElem? (i := 222) rfl) rfl
set_option maxRecDepth 20000 in
theorem T_223 : (Jvm.Cond.code ({ cls := "RecordCalls$Row", name := "size", desc := "()I" } : Jvm.MethodName) prog_6_method_2_code (1 : Nat) (Option.some Jvm.ClassFile.FieldType.int)) ∈ rc_tb := rc_tm1 (List.mem_of_getElem? (i := 223) rfl) rfl
set_option maxRecDepth 20000 in
theorem T_224 : (Jvm.Cond.methodLink "RecordCalls" (65 : Nat) ({ cls := "RecordCalls$Row", name := "addPart", desc := "(LRecordCalls$Row;II)V" } : Jvm.MethodName)) ∈ rc_tb := rc_tm1 (List.mem_of_getElem? (i := 224) rfl) rfl
set_option maxRecDepth 20000 in
theorem T_225 : (Jvm.Cond.instanceMethod ({ cls := "RecordCalls$Row", name := "addPart", desc := "(LRecordCalls$Row;II)V" } : Jvm.MethodName)) ∈ rc_tb := rc_tm1 (List.mem_of_getElem? (i := 225) rfl) rfl
set_option maxRecDepth 20000 in
theorem T_226 : (Jvm.Cond.selects "RecordCalls$Row" ({ cls := "RecordCalls$Row", name := "addPart", desc := "(LRecordCalls$Row;II)V" } : Jvm.MethodName) ({ cls := "RecordCalls$Row", name := "addPart", desc := "(LRecordCalls$Row;II)V" } : Jvm.MethodName)) ∈ rc_tb := rc_tm1 (List.mem_of_getElem? (i := 226) rfl) rfl
set_option maxRecDepth 20000 in
theorem T_227 : (Jvm.Cond.code ({ cls := "RecordCalls$Row", name := "addPart", desc := "(LRecordCalls$Row;II)V" } : Jvm.MethodName) prog_6_method_12_code (4 : Nat) (Option.none : Option Jvm.ClassFile.FieldType)) ∈ rc_tb := rc_tm1 (List.mem_of_getElem? (i := 227) rfl) rfl
set_option maxRecDepth 20000 in
theorem T_228 : (Jvm.Cond.methodLink "RecordCalls$Row" (31 : Nat) ({ cls := "RecordCalls$Row", name := "makeRoom", desc := "(I)V" } : Jvm.MethodName)) ∈ rc_tb := rc_tm1 (List.mem_of_getElem? (i := 228) rfl) rfl
set_option maxRecDepth 20000 in
theorem T_229 : (Jvm.Cond.privateMethod ({ cls := "RecordCalls$Row", name := "makeRoom", desc := "(I)V" } : Jvm.MethodName)) ∈ rc_tb := rc_tm1 (List.mem_of_getElem? (i := 229) rfl) rfl
set_option maxRecDepth 20000 in
theorem T_230 : (Jvm.Cond.instanceMethod ({ cls := "RecordCalls$Row", name := "makeRoom", desc := "(I)V" } : Jvm.MethodName)) ∈ rc_tb := rc_tm1 (List.mem_of_getElem? (i := 230) rfl) rfl
set_option maxRecDepth 20000 in
theorem T_231 : (Jvm.Cond.code ({ cls := "RecordCalls$Row", name := "makeRoom", desc := "(I)V" } : Jvm.MethodName) prog_6_method_7_code (4 : Nat) (Option.none : Option Jvm.ClassFile.FieldType)) ∈ rc_tb := rc_tm1 (List.mem_of_getElem? (i := 231) rfl) rfl
set_option maxRecDepth 20000 in
theorem T_232 : (Jvm.Cond.methodLink "RecordCalls$Row" (19 : Nat) ({ cls := "java/lang/Math", name := "max", desc := "(II)I" } : Jvm.MethodName)) ∈ rc_tb := rc_tm1 (List.mem_of_getElem? (i := 232) rfl) rfl
set_option maxRecDepth 20000 in
theorem T_233 : (Jvm.Cond.static ({ cls := "java/lang/Math", name := "max", desc := "(II)I" } : Jvm.MethodName)) ∈ rc_tb := rc_tm1 (List.mem_of_getElem? (i := 233) rfl) rfl
set_option maxRecDepth 20000 in
theorem T_234 : (Jvm.Cond.code ({ cls := "java/lang/Math", name := "max", desc := "(II)I" } : Jvm.MethodName) prog_14_method_65_code (2 : Nat) (Option.some Jvm.ClassFile.FieldType.int)) ∈ rc_tb := rc_tm1 (List.mem_of_getElem? (i := 234) rfl) rfl
set_option maxRecDepth 20000 in
theorem T_235 : (Jvm.Cond.methodLink "RecordCalls$Row" (25 : Nat) ({ cls := "java/util/Arrays", name := "copyOf", desc := "([BI)[B" } : Jvm.MethodName)) ∈ rc_tb := rc_tm1 (List.mem_of_getElem? (i := 235) rfl) rfl
set_option maxRecDepth 20000 in
theorem T_236 : (Jvm.Cond.static ({ cls := "java/util/Arrays", name := "copyOf", desc := "([BI)[B" } : Jvm.MethodName)) ∈ rc_tb := rc_tm1 (List.mem_of_getElem? (i := 236) rfl) rfl
set_option maxRecDepth 20000 in
theorem T_237 : (Jvm.Cond.code ({ cls := "java/util/Arrays", name := "copyOf", desc := "([BI)[B" } : Jvm.MethodName) prog_19_method_121_code (3 : Nat) (Option.some (Jvm.ClassFile.FieldType.array Jvm.ClassFile.FieldType.byte))) ∈ rc_tb := rc_tm1 (List.mem_of_getElem? (i := 237) rfl) rfl
set_option maxRecDepth 20000 in
theorem T_238 : (Jvm.Cond.methodLink "java/util/Arrays" (310 : Nat) ({ cls := "[B", name := "clone", desc := "()Ljava/lang/Object;" } : Jvm.MethodName)) ∈ rc_tb := rc_tm1 (List.mem_of_getElem? (i := 238) rfl) rfl
set_option maxRecDepth 20000 in
theorem T_239 : (Jvm.Cond.sameMethod "[B" "java/lang/Object" "clone" "()Ljava/lang/Object;") ∈ rc_tb := rc_tm1 (List.mem_of_getElem? (i := 239) rfl) rfl
set_option maxRecDepth 20000 in
theorem T_240 : (Jvm.Cond.native ({ cls := "java/lang/Object", name := "clone", desc := "()Ljava/lang/Object;" } : Jvm.MethodName)) ∈ rc_tb := rc_tm2 (List.mem_of_getElem? (i := 0) rfl) rfl
set_option maxRecDepth 20000 in
theorem T_241 : (Jvm.Cond.instanceMethod ({ cls := "java/lang/Object", name := "clone", desc := "()Ljava/lang/Object;" } : Jvm.MethodName)) ∈ rc_tb := rc_tm2 (List.mem_of_getElem? (i := 1) rfl) rfl
set_option maxRecDepth 20000 in
theorem T_242 : (Jvm.Cond.selects "[B" ({ cls := "[B", name := "clone", desc := "()Ljava/lang/Object;" } : Jvm.MethodName) ({ cls := "java/lang/Object", name := "clone", desc := "()Ljava/lang/Object;" } : Jvm.MethodName)) ∈ rc_tb := rc_tm2 (List.mem_of_getElem? (i := 2) rfl) rfl
set_option maxRecDepth 20000 in
theorem T_243 : (Jvm.Cond.castable "[B" "java/lang/Cloneable") ∈ rc_tb := rc_tm2 (List.mem_of_getElem? (i := 3) rfl) rfl
set_option maxRecDepth 20000 in
theorem T_244 : (Jvm.Cond.classLink "java/util/Arrays" (311 : Nat) "[B") ∈ rc_tb := rc_tm2 (List.mem_of_getElem? (i := 4) rfl) rfl
set_option maxRecDepth 20000 in
theorem T_245 : (Jvm.Cond.methodLink "java/util/Arrays" (304 : Nat) ({ cls := "java/lang/Math", name := "min", desc := "(II)I" } : Jvm.MethodName)) ∈ rc_tb := rc_tm2 (List.mem_of_getElem? (i := 5) rfl) rfl
set_option maxRecDepth 20000 in
theorem T_246 : (Jvm.Cond.static ({ cls := "java/lang/Math", name := "min", desc := "(II)I" } : Jvm.MethodName)) ∈ rc_tb := rc_tm2 (List.mem_of_getElem? (i := 6) rfl) rfl
set_option maxRecDepth 20000 in
theorem T_247 : (Jvm.Cond.code ({ cls := "java/lang/Math", name := "min", desc := "(II)I" } : Jvm.MethodName) prog_14_method_69_code (2 : Nat) (Option.some Jvm.ClassFile.FieldType.int)) ∈ rc_tb := rc_tm2 (List.mem_of_getElem? (i := 7) rfl) rfl
set_option maxRecDepth 20000 in
theorem T_248 : (Jvm.Cond.methodLink "java/util/Arrays" (150 : Nat) ({ cls := "java/lang/System", name := "arraycopy", desc := "(Ljava/lang/Object;ILjava/lang/Object;II)V" } : Jvm.MethodName)) ∈ rc_tb := rc_tm2 (List.mem_of_getElem? (i := 8) rfl) rfl
set_option maxRecDepth 20000 in
theorem T_249 : (Jvm.Cond.static ({ cls := "java/lang/System", name := "arraycopy", desc := "(Ljava/lang/Object;ILjava/lang/Object;II)V" } : Jvm.MethodName)) ∈ rc_tb := rc_tm2 (List.mem_of_getElem? (i := 9) rfl) rfl
set_option maxRecDepth 20000 in
theorem T_250 : (Jvm.Cond.native ({ cls := "java/lang/System", name := "arraycopy", desc := "(Ljava/lang/Object;ILjava/lang/Object;II)V" } : Jvm.MethodName)) ∈ rc_tb := rc_tm2 (List.mem_of_getElem? (i := 10) rfl) rfl
set_option maxRecDepth 20000 in
theorem T_251 : (Jvm.Cond.methodLink "RecordCalls$Row" (38 : Nat) ({ cls := "java/lang/System", name := "arraycopy", desc := "(Ljava/lang/Object;ILjava/lang/Object;II)V" } : Jvm.MethodName)) ∈ rc_tb := rc_tm2 (List.mem_of_getElem? (i := 11) rfl) rfl
set_option maxRecDepth 20000 in
theorem T_252 : (Jvm.Cond.methodLink "RecordCalls" (69 : Nat) ({ cls := "RecordCalls", name := "tapeIsSlot", desc := "()I" } : Jvm.MethodName)) ∈ rc_tb := rc_tm2 (List.mem_of_getElem? (i := 12) rfl) rfl
set_option maxRecDepth 20000 in
theorem T_253 : (Jvm.Cond.privateMethod ({ cls := "RecordCalls", name := "tapeIsSlot", desc := "()I" } : Jvm.MethodName)) ∈ rc_tb := rc_tm2 (List.mem_of_getElem? (i := 13) rfl) rfl
set_option maxRecDepth 20000 in
theorem T_254 : (Jvm.Cond.instanceMethod ({ cls := "RecordCalls", name := "tapeIsSlot", desc := "()I" } : Jvm.MethodName)) ∈ rc_tb := rc_tm2 (List.mem_of_getElem? (i := 14) rfl) rfl
set_option maxRecDepth 20000 in
theorem T_255 : (Jvm.Cond.code ({ cls := "RecordCalls", name := "tapeIsSlot", desc := "()I" } : Jvm.MethodName) prog_1_method_20_code (1 : Nat) (Option.some Jvm.ClassFile.FieldType.int)) ∈ rc_tb := rc_tm2 (List.mem_of_getElem? (i := 15) rfl) rfl
set_option maxRecDepth 20000 in
theorem T_256 : (Jvm.Cond.methodLink "RecordCallsLaw" (107 : Nat) ({ cls := "RecordCalls", name := "value", desc := "()J" } : Jvm.MethodName)) ∈ rc_tb := rc_tm2 (List.mem_of_getElem? (i := 16) rfl) rfl
set_option maxRecDepth 20000 in
theorem T_257 : (Jvm.Cond.instanceMethod ({ cls := "RecordCalls", name := "value", desc := "()J" } : Jvm.MethodName)) ∈ rc_tb := rc_tm2 (List.mem_of_getElem? (i := 17) rfl) rfl
set_option maxRecDepth 20000 in
theorem T_258 : (Jvm.Cond.selects "RecordCalls" ({ cls := "RecordCalls", name := "value", desc := "()J" } : Jvm.MethodName) ({ cls := "RecordCalls", name := "value", desc := "()J" } : Jvm.MethodName)) ∈ rc_tb := rc_tm2 (List.mem_of_getElem? (i := 18) rfl) rfl
set_option maxRecDepth 20000 in
theorem T_259 : (Jvm.Cond.code ({ cls := "RecordCalls", name := "value", desc := "()J" } : Jvm.MethodName) prog_1_method_13_code (1 : Nat) (Option.some Jvm.ClassFile.FieldType.long)) ∈ rc_tb := rc_tm2 (List.mem_of_getElem? (i := 19) rfl) rfl
set_option maxRecDepth 20000 in
theorem T_260 : (Jvm.Cond.methodLink "RecordCalls" (157 : Nat) ({ cls := "RecordCalls", name := "placeOfTape", desc := "()I" } : Jvm.MethodName)) ∈ rc_tb := rc_tm2 (List.mem_of_getElem? (i := 20) rfl) rfl
set_option maxRecDepth 20000 in
theorem T_261 : (Jvm.Cond.privateMethod ({ cls := "RecordCalls", name := "placeOfTape", desc := "()I" } : Jvm.MethodName)) ∈ rc_tb := rc_tm2 (List.mem_of_getElem? (i := 21) rfl) rfl
set_option maxRecDepth 20000 in
theorem T_262 : (Jvm.Cond.instanceMethod ({ cls := "RecordCalls", name := "placeOfTape", desc := "()I" } : Jvm.MethodName)) ∈ rc_tb := rc_tm2 (List.mem_of_getElem? (i := 22) rfl) rfl
set_option maxRecDepth 20000 in
theorem T_263 : (Jvm.Cond.code ({ cls := "RecordCalls", name := "placeOfTape", desc := "()I" } : Jvm.MethodName) prog_1_method_25_code (1 : Nat) (Option.some Jvm.ClassFile.FieldType.int)) ∈ rc_tb := rc_tm2 (List.mem_of_getElem? (i := 23) rfl) rfl
set_option maxRecDepth 20000 in
theorem T_264 : (Jvm.Cond.methodLink "RecordCalls" (179 : Nat) ({ cls := "RecordCalls$KeyMap", name := "placeOf", desc := "(LRecordCalls$Row;II)I" } : Jvm.MethodName)) ∈ rc_tb := rc_tm2 (List.mem_of_getElem? (i := 24) rfl) rfl
set_option maxRecDepth 20000 in
theorem T_265 : (Jvm.Cond.instanceMethod ({ cls := "RecordCalls$KeyMap", name := "placeOf", desc := "(LRecordCalls$Row;II)I" } : Jvm.MethodName)) ∈ rc_tb := rc_tm2 (List.mem_of_getElem? (i := 25) rfl) rfl
set_option maxRecDepth 20000 in
theorem T_266 : (Jvm.Cond.selects "RecordCalls$KeyMap" ({ cls := "RecordCalls$KeyMap", name := "placeOf", desc := "(LRecordCalls$Row;II)I" } : Jvm.MethodName) ({ cls := "RecordCalls$KeyMap", name := "placeOf", desc := "(LRecordCalls$Row;II)I" } : Jvm.MethodName)) ∈ rc_tb := rc_tm2 (List.mem_of_getElem? (i := 26) rfl) rfl
set_option maxRecDepth 20000 in
theorem T_267 : (Jvm.Cond.code ({ cls := "RecordCalls$KeyMap", name := "placeOf", desc := "(LRecordCalls$Row;II)I" } : Jvm.MethodName) prog_3_method_5_code (5 : Nat) (Option.some Jvm.ClassFile.FieldType.int)) ∈ rc_tb := rc_tm2 (List.mem_of_getElem? (i := 27) rfl) rfl
set_option maxRecDepth 20000 in
theorem T_268 : (Jvm.Cond.methodLink "RecordCalls$KeyMap" (26 : Nat) ({ cls := "RecordCalls$Row", name := "isPart", desc := "(LRecordCalls$Row;II)Z" } : Jvm.MethodName)) ∈ rc_tb := rc_tm2 (List.mem_of_getElem? (i := 28) rfl) rfl
set_option maxRecDepth 20000 in
theorem T_269 : (Jvm.Cond.instanceMethod ({ cls := "RecordCalls$Row", name := "isPart", desc := "(LRecordCalls$Row;II)Z" } : Jvm.MethodName)) ∈ rc_tb := rc_tm2 (List.mem_of_getElem? (i := 29) rfl) rfl
set_option maxRecDepth 20000 in
theorem T_270 : (Jvm.Cond.selects "RecordCalls$Row" ({ cls := "RecordCalls$Row", name := "isPart", desc := "(LRecordCalls$Row;II)Z" } : Jvm.MethodName) ({ cls := "RecordCalls$Row", name := "isPart", desc := "(LRecordCalls$Row;II)Z" } : Jvm.MethodName)) ∈ rc_tb := rc_tm2 (List.mem_of_getElem? (i := 30) rfl) rfl
set_option maxRecDepth 20000 in
theorem T_271 : (Jvm.Cond.code ({ cls := "RecordCalls$Row", name := "isPart", desc := "(LRecordCalls$Row;II)Z" } : Jvm.MethodName) prog_6_method_14_code (5 : Nat) (Option.some Jvm.ClassFile.FieldType.boolean)) ∈ rc_tb := rc_tm2 (List.mem_of_getElem? (i := 31) rfl) rfl
set_option maxRecDepth 20000 in
theorem T_272 : (Jvm.Cond.methodLink "RecordCalls$Row" (55 : Nat) ({ cls := "RecordCalls$Row", name := "at", desc := "(I)I" } : Jvm.MethodName)) ∈ rc_tb := rc_tm2 (List.mem_of_getElem? (i := 32) rfl) rfl
set_option maxRecDepth 20000 in
theorem T_273 : (Jvm.Cond.instanceMethod ({ cls := "RecordCalls$Row", name := "at", desc := "(I)I" } : Jvm.MethodName)) ∈ rc_tb := rc_tm2 (List.mem_of_getElem? (i := 33) rfl) rfl
set_option maxRecDepth 20000 in
theorem T_274 : (Jvm.Cond.selects "RecordCalls$Row" ({ cls := "RecordCalls$Row", name := "at", desc := "(I)I" } : Jvm.MethodName) ({ cls := "RecordCalls$Row", name := "at", desc := "(I)I" } : Jvm.MethodName)) ∈ rc_tb := rc_tm2 (List.mem_of_getElem? (i := 34) rfl) rfl
set_option maxRecDepth 20000 in
theorem T_275 : (Jvm.Cond.code ({ cls := "RecordCalls$Row", name := "at", desc := "(I)I" } : Jvm.MethodName) prog_6_method_5_code (2 : Nat) (Option.some Jvm.ClassFile.FieldType.int)) ∈ rc_tb := rc_tm2 (List.mem_of_getElem? (i := 35) rfl) rfl
set_option maxRecDepth 20000 in
theorem T_276 : (Jvm.Cond.methodLink "RecordCalls" (160 : Nat) ({ cls := "RecordCalls$KeyMap", name := "valueAt", desc := "(I)J" } : Jvm.MethodName)) ∈ rc_tb := rc_tm2 (List.mem_of_getElem? (i := 36) rfl) rfl
set_option maxRecDepth 20000 in
theorem T_277 : (Jvm.Cond.instanceMethod ({ cls := "RecordCalls$KeyMap", name := "valueAt", desc := "(I)J" } : Jvm.MethodName)) ∈ rc_tb := rc_tm2 (List.mem_of_getElem? (i := 37) rfl) rfl
set_option maxRecDepth 20000 in
theorem T_278 : (Jvm.Cond.selects "RecordCalls$KeyMap" ({ cls := "RecordCalls$KeyMap", name := "valueAt", desc := "(I)J" } : Jvm.MethodName) ({ cls := "RecordCalls$KeyMap", name := "valueAt", desc := "(I)J" } : Jvm.MethodName)) ∈ rc_tb := rc_tm2 (List.mem_of_getElem? (i := 38) rfl) rfl
set_option maxRecDepth 20000 in
theorem T_279 : (Jvm.Cond.code ({ cls := "RecordCalls$KeyMap", name := "valueAt", desc := "(I)J" } : Jvm.MethodName) prog_3_method_6_code (2 : Nat) (Option.some Jvm.ClassFile.FieldType.long)) ∈ rc_tb := rc_tm2 (List.mem_of_getElem? (i := 39) rfl) rfl
set_option maxRecDepth 20000 in
theorem T_280 : (Jvm.Cond.methodLink "RecordCalls$KeyMap" (30 : Nat) ({ cls := "RecordCalls$KeyMap", name := "isPlace", desc := "(I)Z" } : Jvm.MethodName)) ∈ rc_tb := rc_tm2 (List.mem_of_getElem? (i := 40) rfl) rfl
set_option maxRecDepth 20000 in
theorem T_281 : (Jvm.Cond.instanceMethod ({ cls := "RecordCalls$KeyMap", name := "isPlace", desc := "(I)Z" } : Jvm.MethodName)) ∈ rc_tb := rc_tm2 (List.mem_of_getElem? (i := 41) rfl) rfl
set_option maxRecDepth 20000 in
theorem T_282 : (Jvm.Cond.selects "RecordCalls$KeyMap" ({ cls := "RecordCalls$KeyMap", name := "isPlace", desc := "(I)Z" } : Jvm.MethodName) ({ cls := "RecordCalls$KeyMap", name := "isPlace", desc := "(I)Z" } : Jvm.MethodName)) ∈ rc_tb := rc_tm2 (List.mem_of_getElem? (i := 42) rfl) rfl
set_option maxRecDepth 20000 in
theorem T_283 : (Jvm.Cond.code ({ cls := "RecordCalls$KeyMap", name := "isPlace", desc := "(I)Z" } : Jvm.MethodName) prog_3_method_4_code (2 : Nat) (Option.some Jvm.ClassFile.FieldType.boolean)) ∈ rc_tb := rc_tm2 (List.mem_of_getElem? (i := 43) rfl) rfl
set_option maxRecDepth 20000 in
theorem T_284 : (Jvm.Cond.methodLink "RecordCallsLaw" (112 : Nat) ({ cls := "RecordCalls", name := "has", desc := "()Z" } : Jvm.MethodName)) ∈ rc_tb := rc_tm2 (List.mem_of_getElem? (i := 44) rfl) rfl
set_option maxRecDepth 20000 in
theorem T_285 : (Jvm.Cond.instanceMethod ({ cls := "RecordCalls", name := "has", desc := "()Z" } : Jvm.MethodName)) ∈ rc_tb := rc_tm2 (List.mem_of_getElem? (i := 45) rfl) rfl
set_option maxRecDepth 20000 in
theorem T_286 : (Jvm.Cond.selects "RecordCalls" ({ cls := "RecordCalls", name := "has", desc := "()Z" } : Jvm.MethodName) ({ cls := "RecordCalls", name := "has", desc := "()Z" } : Jvm.MethodName)) ∈ rc_tb := rc_tm2 (List.mem_of_getElem? (i := 46) rfl) rfl
set_option maxRecDepth 20000 in
theorem T_287 : (Jvm.Cond.code ({ cls := "RecordCalls", name := "has", desc := "()Z" } : Jvm.MethodName) prog_1_method_14_code (1 : Nat) (Option.some Jvm.ClassFile.FieldType.boolean)) ∈ rc_tb := rc_tm2 (List.mem_of_getElem? (i := 47) rfl) rfl
set_option maxRecDepth 20000 in
theorem T_288 : (Jvm.Cond.methodLink "RecordCallsLaw" (59 : Nat) ({ cls := "RecordCallsLaw", name := "feed", desc := "(LRecordCalls;IIIII[J)I" } : Jvm.MethodName)) ∈ rc_tb := rc_tm2 (List.mem_of_getElem? (i := 48) rfl) rfl
set_option maxRecDepth 20000 in
theorem T_289 : (Jvm.Cond.static ({ cls := "RecordCallsLaw", name := "feed", desc := "(LRecordCalls;IIIII[J)I" } : Jvm.MethodName)) ∈ rc_tb := rc_tm2 (List.mem_of_getElem? (i := 49) rfl) rfl
set_option maxRecDepth 20000 in
theorem T_290 : (Jvm.Cond.codeWith ({ cls := "RecordCallsLaw", name := "feed", desc := "(LRecordCalls;IIIII[J)I" } : Jvm.MethodName) method_3_code (8 : Nat) (Option.some Jvm.ClassFile.FieldType.int) [((0 : Nat), (16 : Nat), (19 : Nat), (13 : Nat))]) ∈ rc_tb := rc_tm2 (List.mem_of_getElem? (i := 50) rfl) rfl
set_option maxRecDepth 20000 in
theorem T_291 : (Jvm.Cond.classLink "RecordCallsLaw" (13 : Nat) "java/lang/UnsupportedOperationException") ∈ rc_tb := rc_tm2 (List.mem_of_getElem? (i := 51) rfl) rfl
set_option maxRecDepth 20000 in
theorem T_292 : (Jvm.Cond.methodLink "RecordCallsLaw" (7 : Nat) ({ cls := "RecordCalls", name := "feed", desc := "(IIIII)I" } : Jvm.MethodName)) ∈ rc_tb := rc_tm2 (List.mem_of_getElem? (i := 52) rfl) rfl
set_option maxRecDepth 20000 in
theorem T_293 : (Jvm.Cond.instanceMethod ({ cls := "RecordCalls", name := "feed", desc := "(IIIII)I" } : Jvm.MethodName)) ∈ rc_tb := rc_tm2 (List.mem_of_getElem? (i := 53) rfl) rfl
set_option maxRecDepth 20000 in
theorem T_294 : (Jvm.Cond.selects "RecordCalls" ({ cls := "RecordCalls", name := "feed", desc := "(IIIII)I" } : Jvm.MethodName) ({ cls := "RecordCalls", name := "feed", desc := "(IIIII)I" } : Jvm.MethodName)) ∈ rc_tb := rc_tm2 (List.mem_of_getElem? (i := 54) rfl) rfl
set_option maxRecDepth 20000 in
theorem T_295 : (Jvm.Cond.code ({ cls := "RecordCalls", name := "feed", desc := "(IIIII)I" } : Jvm.MethodName) prog_1_method_2_code (6 : Nat) (Option.some Jvm.ClassFile.FieldType.int)) ∈ rc_tb := rc_tm2 (List.mem_of_getElem? (i := 55) rfl) rfl
set_option maxRecDepth 20000 in
theorem T_296 : (Jvm.Cond.classLink "RecordCalls" (48 : Nat) "java/lang/UnsupportedOperationException") ∈ rc_tb := rc_tm2 (List.mem_of_getElem? (i := 56) rfl) rfl
set_option maxRecDepth 20000 in
theorem T_297 : (Jvm.Cond.instantiable "java/lang/UnsupportedOperationException" (6 : Nat)) ∈ rc_tb := rc_tm2 (List.mem_of_getElem? (i := 57) rfl) rfl
set_option maxRecDepth 20000 in
theorem T_298 : (Jvm.Cond.castable "java/lang/UnsupportedOperationException" "java/lang/UnsupportedOperationException") ∈ rc_tb := rc_tm2 (List.mem_of_getElem? (i := 58) rfl) rfl
set_option maxRecDepth 20000 in
theorem T_299 : (Jvm.Cond.declares ({ cls := "java/lang/RuntimeException", name := "<init>", desc := "()V" } : Jvm.MethodName)) ∈ rc_tb := rc_tm2 (List.mem_of_getElem? (i := 59) rfl) rfl
set_option maxRecDepth 20000 in
theorem T_300 : (Jvm.Cond.declares ({ cls := "java/lang/RuntimeException", name := "<init>", desc := "(Ljava/lang/String;)V" } : Jvm.MethodName)) ∈ rc_tb := rc_tm2 (List.mem_of_getElem? (i := 60) rfl) rfl
set_option maxRecDepth 20000 in
theorem T_301 : (Jvm.Cond.declares ({ cls := "java/lang/Exception", name := "<init>", desc := "()V" } : Jvm.MethodName)) ∈ rc_tb := rc_tm2 (List.mem_of_getElem? (i := 61) rfl) rfl
set_option maxRecDepth 20000 in
theorem T_302 : (Jvm.Cond.declares ({ cls := "java/lang/Exception", name := "<init>", desc := "(Ljava/lang/String;)V" } : Jvm.MethodName)) ∈ rc_tb := rc_tm2 (List.mem_of_getElem? (i := 62) rfl) rfl
set_option maxRecDepth 20000 in
theorem T_303 : (Jvm.Cond.declares ({ cls := "java/lang/Throwable", name := "<init>", desc := "()V" } : Jvm.MethodName)) ∈ rc_tb := rc_tm2 (List.mem_of_getElem? (i := 63) rfl) rfl
set_option maxRecDepth 20000 in
theorem T_304 : (Jvm.Cond.declares ({ cls := "java/lang/Throwable", name := "<init>", desc := "(Ljava/lang/String;)V" } : Jvm.MethodName)) ∈ rc_tb := rc_tm2 (List.mem_of_getElem? (i := 64) rfl) rfl
set_option maxRecDepth 20000 in
theorem T_305 : (Jvm.Cond.selects "java/lang/UnsupportedOperationException" ({ cls := "java/lang/Throwable", name := "fillInStackTrace", desc := "(I)Ljava/lang/Throwable;" } : Jvm.MethodName) ({ cls := "java/lang/Throwable", name := "fillInStackTrace", desc := "(I)Ljava/lang/Throwable;" } : Jvm.MethodName)) ∈ rc_tb := rc_tm2 (List.mem_of_getElem? (i := 65) rfl) rfl
set_option maxRecDepth 20000 in
theorem T_306 : (Jvm.Cond.selects "java/lang/UnsupportedOperationException" ({ cls := "java/lang/Throwable", name := "fillInStackTrace", desc := "()Ljava/lang/Throwable;" } : Jvm.MethodName) ({ cls := "java/lang/Throwable", name := "fillInStackTrace", desc := "()Ljava/lang/Throwable;" } : Jvm.MethodName)) ∈ rc_tb := rc_tm2 (List.mem_of_getElem? (i := 66) rfl) rfl
set_option maxRecDepth 20000 in
theorem T_307 : (Jvm.Cond.lays "java/lang/UnsupportedOperationException" "java/lang/Throwable" "cause" "Ljava/lang/Throwable;") ∈ rc_tb := rc_tm2 (List.mem_of_getElem? (i := 67) rfl) rfl
set_option maxRecDepth 20000 in
theorem T_308 : (Jvm.Cond.lays "java/lang/Throwable" "java/lang/Throwable" "cause" "Ljava/lang/Throwable;") ∈ rc_tb := rc_tm2 (List.mem_of_getElem? (i := 68) rfl) rfl
set_option maxRecDepth 20000 in
theorem T_309 : (Jvm.Cond.lays "java/lang/UnsupportedOperationException" "java/lang/Throwable" "stackTrace" "[Ljava/lang/StackTraceElement;") ∈ rc_tb := rc_tm2 (List.mem_of_getElem? (i := 69) rfl) rfl
set_option maxRecDepth 20000 in
theorem T_310 : (Jvm.Cond.lays "java/lang/Throwable" "java/lang/Throwable" "stackTrace" "[Ljava/lang/StackTraceElement;") ∈ rc_tb := rc_tm2 (List.mem_of_getElem? (i := 70) rfl) rfl
set_option maxRecDepth 20000 in
theorem T_311 : (Jvm.Cond.lays "java/lang/UnsupportedOperationException" "java/lang/Throwable" "suppressedExceptions" "Ljava/util/List;") ∈ rc_tb := rc_tm2 (List.mem_of_getElem? (i := 71) rfl) rfl
set_option maxRecDepth 20000 in
theorem T_312 : (Jvm.Cond.lays "java/lang/Throwable" "java/lang/Throwable" "suppressedExceptions" "Ljava/util/List;") ∈ rc_tb := rc_tm2 (List.mem_of_getElem? (i := 72) rfl) rfl
set_option maxRecDepth 20000 in
theorem T_313 : (Jvm.Cond.lays "java/lang/UnsupportedOperationException" "java/lang/Throwable" "detailMessage" "Ljava/lang/String;") ∈ rc_tb := rc_tm2 (List.mem_of_getElem? (i := 73) rfl) rfl
set_option maxRecDepth 20000 in
theorem T_314 : (Jvm.Cond.lays "java/lang/Throwable" "java/lang/Throwable" "detailMessage" "Ljava/lang/String;") ∈ rc_tb := rc_tm2 (List.mem_of_getElem? (i := 74) rfl) rfl
set_option maxRecDepth 20000 in
theorem T_315 : (Jvm.Cond.lays "java/lang/UnsupportedOperationException" "java/lang/Throwable" "backtrace" "Ljava/lang/Object;") ∈ rc_tb := rc_tm2 (List.mem_of_getElem? (i := 75) rfl) rfl
set_option maxRecDepth 20000 in
theorem T_316 : (Jvm.Cond.lays "java/lang/Throwable" "java/lang/Throwable" "backtrace" "Ljava/lang/Object;") ∈ rc_tb := rc_tm2 (List.mem_of_getElem? (i := 76) rfl) rfl
set_option maxRecDepth 20000 in
theorem T_317 : (Jvm.Cond.fieldLink "java/lang/Throwable" (198 : Nat) "java/lang/Throwable" "backtrace" "Ljava/lang/Object;") ∈ rc_tb := rc_tm2 (List.mem_of_getElem? (i := 77) rfl) rfl
set_option maxRecDepth 20000 in
theorem T_318 : (Jvm.Cond.superclass "java/lang/Throwable" "java/lang/Object") ∈ rc_tb := rc_tm2 (List.mem_of_getElem? (i := 78) rfl) rfl
set_option maxRecDepth 20000 in
theorem T_319 : (Jvm.Cond.instanceMethod ({ cls := "java/lang/Throwable", name := "<init>", desc := "()V" } : Jvm.MethodName)) ∈ rc_tb := rc_tm2 (List.mem_of_getElem? (i := 79) rfl) rfl
set_option maxRecDepth 20000 in
theorem T_320 : (Jvm.Cond.code ({ cls := "java/lang/Throwable", name := "<init>", desc := "()V" } : Jvm.MethodName) prog_17_method_1_code (1 : Nat) (Option.none : Option Jvm.ClassFile.FieldType)) ∈ rc_tb := rc_tm2 (List.mem_of_getElem? (i := 80) rfl) rfl
set_option maxRecDepth 20000 in
theorem T_321 : (Jvm.Cond.methodLink "java/lang/Throwable" (1 : Nat) ({ cls := "java/lang/Object", name := "<init>", desc := "()V" } : Jvm.MethodName)) ∈ rc_tb := rc_tm2 (List.mem_of_getElem? (i := 81) rfl) rfl
set_option maxRecDepth 20000 in
theorem T_322 : (Jvm.Cond.fieldLink "java/lang/Throwable" (13 : Nat) "java/lang/Throwable" "UNASSIGNED_STACK" "[Ljava/lang/StackTraceElement;") ∈ rc_tb := rc_tm2 (List.mem_of_getElem? (i := 82) rfl) rfl
set_option maxRecDepth 20000 in
theorem T_324 : (Jvm.Cond.fieldLink "java/lang/Throwable" (20 : Nat) "java/lang/Throwable" "SUPPRESSED_SENTINEL" "Ljava/util/List;") ∈ rc_tb := rc_tm2 (List.mem_of_getElem? (i := 84) rfl) rfl
set_option maxRecDepth 20000 in
theorem T_326 : (Jvm.Cond.methodLink "java/lang/Throwable" (27 : Nat) ({ cls := "java/lang/Throwable", name := "fillInStackTrace", desc := "()Ljava/lang/Throwable;" } : Jvm.MethodName)) ∈ rc_tb := rc_tm2 (List.mem_of_getElem? (i := 86) rfl) rfl
set_option maxRecDepth 20000 in
theorem T_327 : (Jvm.Cond.instanceMethod ({ cls := "java/lang/Throwable", name := "fillInStackTrace", desc := "()Ljava/lang/Throwable;" } : Jvm.MethodName)) ∈ rc_tb := rc_tm2 (List.mem_of_getElem? (i := 87) rfl) rfl
set_option maxRecDepth 20000 in
theorem T_328 : (Jvm.Cond.sameMethod "java/lang/Throwable" "java/lang/Throwable" "fillInStackTrace" "()Ljava/lang/Throwable;") ∈ rc_tb := rc_tm2 (List.mem_of_getElem? (i := 88) rfl) rfl
set_option maxRecDepth 20000 in
theorem T_329 : (Jvm.Cond.selects "java/lang/IllegalArgumentException" ({ cls := "java/lang/Throwable", name := "fillInStackTrace", desc := "()Ljava/lang/Throwable;" } : Jvm.MethodName) ({ cls := "java/lang/Throwable", name := "fillInStackTrace", desc := "()Ljava/lang/Throwable;" } : Jvm.MethodName)) ∈ rc_tb := rc_tm2 (List.mem_of_getElem? (i := 89) rfl) rfl
set_option maxRecDepth 20000 in
theorem T_330 : (Jvm.Cond.selects "java/lang/IndexOutOfBoundsException" ({ cls := "java/lang/Throwable", name := "fillInStackTrace", desc := "()Ljava/lang/Throwable;" } : Jvm.MethodName) ({ cls := "java/lang/Throwable", name := "fillInStackTrace", desc := "()Ljava/lang/Throwable;" } : Jvm.MethodName)) ∈ rc_tb := rc_tm2 (List.mem_of_getElem? (i := 90) rfl) rfl
set_option maxRecDepth 20000 in
theorem T_331 : (Jvm.Cond.codeSync ({ cls := "java/lang/Throwable", name := "fillInStackTrace", desc := "()Ljava/lang/Throwable;" } : Jvm.MethodName) prog_17_method_18_code (1 : Nat) (Option.some (Jvm.ClassFile.FieldType.object "java/lang/Throwable"))) ∈ rc_tb := rc_tm2 (List.mem_of_getElem? (i := 91) rfl) rfl
set_option maxRecDepth 20000 in
theorem T_332 : (Jvm.Cond.methodLink "java/lang/Throwable" (202 : Nat) ({ cls := "java/lang/Throwable", name := "fillInStackTrace", desc := "(I)Ljava/lang/Throwable;" } : Jvm.MethodName)) ∈ rc_tb := rc_tm2 (List.mem_of_getElem? (i := 92) rfl) rfl
set_option maxRecDepth 20000 in
theorem T_333 : (Jvm.Cond.privateMethod ({ cls := "java/lang/Throwable", name := "fillInStackTrace", desc := "(I)Ljava/lang/Throwable;" } : Jvm.MethodName)) ∈ rc_tb := rc_tm2 (List.mem_of_getElem? (i := 93) rfl) rfl
set_option maxRecDepth 20000 in
theorem T_334 : (Jvm.Cond.instanceMethod ({ cls := "java/lang/Throwable", name := "fillInStackTrace", desc := "(I)Ljava/lang/Throwable;" } : Jvm.MethodName)) ∈ rc_tb := rc_tm2 (List.mem_of_getElem? (i := 94) rfl) rfl
set_option maxRecDepth 20000 in
theorem T_335 : (Jvm.Cond.instantiable "java/lang/Throwable" (6 : Nat)) ∈ rc_tb := rc_tm2 (List.mem_of_getElem? (i := 95) rfl) rfl
set_option maxRecDepth 20000 in
theorem T_336 : (Jvm.Cond.native ({ cls := "java/lang/Throwable", name := "fillInStackTrace", desc := "(I)Ljava/lang/Throwable;" } : Jvm.MethodName)) ∈ rc_tb := rc_tm2 (List.mem_of_getElem? (i := 96) rfl) rfl
set_option maxRecDepth 20000 in
theorem T_337 : (Jvm.Cond.methodLink "RecordCalls" (50 : Nat) ({ cls := "java/lang/UnsupportedOperationException", name := "<init>", desc := "()V" } : Jvm.MethodName)) ∈ rc_tb := rc_tm2 (List.mem_of_getElem? (i := 97) rfl) rfl
set_option maxRecDepth 20000 in
theorem T_338 : (Jvm.Cond.instanceMethod ({ cls := "java/lang/UnsupportedOperationException", name := "<init>", desc := "()V" } : Jvm.MethodName)) ∈ rc_tb := rc_tm2 (List.mem_of_getElem? (i := 98) rfl) rfl
set_option maxRecDepth 20000 in
theorem T_339 : (Jvm.Cond.code ({ cls := "java/lang/UnsupportedOperationException", name := "<init>", desc := "()V" } : Jvm.MethodName) prog_18_method_1_code (1 : Nat) (Option.none : Option Jvm.ClassFile.FieldType)) ∈ rc_tb := rc_tm2 (List.mem_of_getElem? (i := 99) rfl) rfl
set_option maxRecDepth 20000 in
theorem T_340 : (Jvm.Cond.methodLink "java/lang/UnsupportedOperationException" (1 : Nat) ({ cls := "java/lang/RuntimeException", name := "<init>", desc := "()V" } : Jvm.MethodName)) ∈ rc_tb := rc_tm2 (List.mem_of_getElem? (i := 100) rfl) rfl
set_option maxRecDepth 20000 in
theorem T_341 : (Jvm.Cond.instanceMethod ({ cls := "java/lang/RuntimeException", name := "<init>", desc := "()V" } : Jvm.MethodName)) ∈ rc_tb := rc_tm2 (List.mem_of_getElem? (i := 101) rfl) rfl
set_option maxRecDepth 20000 in
theorem T_342 : (Jvm.Cond.code ({ cls := "java/lang/RuntimeException", name := "<init>", desc := "()V" } : Jvm.MethodName) prog_15_method_1_code (1 : Nat) (Option.none : Option Jvm.ClassFile.FieldType)) ∈ rc_tb := rc_tm2 (List.mem_of_getElem? (i := 102) rfl) rfl
set_option maxRecDepth 20000 in
theorem T_343 : (Jvm.Cond.methodLink "java/lang/RuntimeException" (1 : Nat) ({ cls := "java/lang/Exception", name := "<init>", desc := "()V" } : Jvm.MethodName)) ∈ rc_tb := rc_tm2 (List.mem_of_getElem? (i := 103) rfl) rfl
set_option maxRecDepth 20000 in
theorem T_344 : (Jvm.Cond.instanceMethod ({ cls := "java/lang/Exception", name := "<init>", desc := "()V" } : Jvm.MethodName)) ∈ rc_tb := rc_tm2 (List.mem_of_getElem? (i := 104) rfl) rfl
set_option maxRecDepth 20000 in
theorem T_345 : (Jvm.Cond.code ({ cls := "java/lang/Exception", name := "<init>", desc := "()V" } : Jvm.MethodName) prog_11_method_1_code (1 : Nat) (Option.none : Option Jvm.ClassFile.FieldType)) ∈ rc_tb := rc_tm2 (List.mem_of_getElem? (i := 105) rfl) rfl
set_option maxRecDepth 20000 in
theorem T_346 : (Jvm.Cond.methodLink "java/lang/Exception" (1 : Nat) ({ cls := "java/lang/Throwable", name := "<init>", desc := "()V" } : Jvm.MethodName)) ∈ rc_tb := rc_tm2 (List.mem_of_getElem? (i := 106) rfl) rfl
set_option maxRecDepth 20000 in
theorem T_347 : (Jvm.Cond.fieldLink "java/lang/Throwable" (198 : Nat) "java/lang/Throwable" "backtrace" "Ljava/lang/Object;") ∈ rc_tb := rc_tm2 (List.mem_of_getElem? (i := 107) rfl) rfl
set_option maxRecDepth 20000 in
theorem T_348 : (Jvm.Cond.fieldLink "java/lang/Throwable" (7 : Nat) "java/lang/Throwable" "cause" "Ljava/lang/Throwable;") ∈ rc_tb := rc_tm2 (List.mem_of_getElem? (i := 108) rfl) rfl
set_option maxRecDepth 20000 in
theorem T_349 : (Jvm.Cond.fieldLink "java/lang/Throwable" (17 : Nat) "java/lang/Throwable" "stackTrace" "[Ljava/lang/StackTraceElement;") ∈ rc_tb := rc_tm2 (List.mem_of_getElem? (i := 109) rfl) rfl
set_option maxRecDepth 20000 in
theorem T_350 : (Jvm.Cond.fieldLink "java/lang/Throwable" (24 : Nat) "java/lang/Throwable" "suppressedExceptions" "Ljava/util/List;") ∈ rc_tb := rc_tm2 (List.mem_of_getElem? (i := 110) rfl) rfl
set_option maxRecDepth 20000 in
theorem T_351 : (Jvm.Cond.soleField "java/lang/Throwable" "backtrace") ∈ rc_tb := rc_tm2 (List.mem_of_getElem? (i := 111) rfl) rfl
set_option maxRecDepth 20000 in
theorem T_352 : (Jvm.Cond.soleField "java/lang/Throwable" "detailMessage") ∈ rc_tb := rc_tm2 (List.mem_of_getElem? (i := 112) rfl) rfl
set_option maxRecDepth 20000 in
theorem T_353 : (Jvm.Cond.soleField "java/lang/Throwable" "cause") ∈ rc_tb := rc_tm2 (List.mem_of_getElem? (i := 113) rfl) rfl
set_option maxRecDepth 20000 in
theorem T_354 : (Jvm.Cond.soleField "java/lang/Throwable" "stackTrace") ∈ rc_tb := rc_tm2 (List.mem_of_getElem? (i := 114) rfl) rfl
set_option maxRecDepth 20000 in
theorem T_355 : (Jvm.Cond.lays "java/lang/UnsupportedOperationException" "java/lang/Throwable" "depth" "I") ∈ rc_tb := rc_tm2 (List.mem_of_getElem? (i := 115) rfl) rfl
set_option maxRecDepth 20000 in
theorem T_356 : (Jvm.Cond.soleField "java/lang/Throwable" "depth") ∈ rc_tb := rc_tm2 (List.mem_of_getElem? (i := 116) rfl) rfl
set_option maxRecDepth 20000 in
theorem T_357 : (Jvm.Cond.soleField "java/lang/Throwable" "suppressedExceptions") ∈ rc_tb := rc_tm2 (List.mem_of_getElem? (i := 117) rfl) rfl
set_option maxRecDepth 20000 in
theorem T_358 : (Jvm.Cond.superclass "java/lang/UnsupportedOperationException" "java/lang/RuntimeException") ∈ rc_tb := rc_tm2 (List.mem_of_getElem? (i := 118) rfl) rfl
set_option maxRecDepth 20000 in
theorem T_359 : (Jvm.Cond.methodLink "RecordCalls" (51 : Nat) ({ cls := "RecordCalls$Row", name := "addWord", desc := "(I)V" } : Jvm.MethodName)) ∈ rc_tb := rc_tm2 (List.mem_of_getElem? (i := 119) rfl) rfl
set_option maxRecDepth 20000 in
theorem T_360 : (Jvm.Cond.instanceMethod ({ cls := "RecordCalls$Row", name := "addWord", desc := "(I)V" } : Jvm.MethodName)) ∈ rc_tb := rc_tm2 (List.mem_of_getElem? (i := 120) rfl) rfl
set_option maxRecDepth 20000 in
theorem T_361 : (Jvm.Cond.selects "RecordCalls$Row" ({ cls := "RecordCalls$Row", name := "addWord", desc := "(I)V" } : Jvm.MethodName) ({ cls := "RecordCalls$Row", name := "addWord", desc := "(I)V" } : Jvm.MethodName)) ∈ rc_tb := rc_tm2 (List.mem_of_getElem? (i := 121) rfl) rfl
set_option maxRecDepth 20000 in
theorem T_362 : (Jvm.Cond.code ({ cls := "RecordCalls$Row", name := "addWord", desc := "(I)V" } : Jvm.MethodName) prog_6_method_9_code (2 : Nat) (Option.none : Option Jvm.ClassFile.FieldType)) ∈ rc_tb := rc_tm2 (List.mem_of_getElem? (i := 122) rfl) rfl
set_option maxRecDepth 20000 in
theorem T_363 : (Jvm.Cond.methodLink "RecordCallsLaw" (69 : Nat) ({ cls := "RecordCallsLaw", name := "end", desc := "(LRecordCalls;I)I" } : Jvm.MethodName)) ∈ rc_tb := rc_tm2 (List.mem_of_getElem? (i := 123) rfl) rfl
set_option maxRecDepth 20000 in
theorem T_364 : (Jvm.Cond.static ({ cls := "RecordCallsLaw", name := "end", desc := "(LRecordCalls;I)I" } : Jvm.MethodName)) ∈ rc_tb := rc_tm2 (List.mem_of_getElem? (i := 124) rfl) rfl
set_option maxRecDepth 20000 in
theorem T_365 : (Jvm.Cond.codeWith ({ cls := "RecordCallsLaw", name := "end", desc := "(LRecordCalls;I)I" } : Jvm.MethodName) method_4_code (3 : Nat) (Option.some Jvm.ClassFile.FieldType.int) [((0 : Nat), (5 : Nat), (8 : Nat), (19 : Nat))]) ∈ rc_tb := rc_tm2 (List.mem_of_getElem? (i := 125) rfl) rfl
set_option maxRecDepth 20000 in
theorem T_366 : (Jvm.Cond.classLink "RecordCallsLaw" (19 : Nat) "java/lang/IllegalArgumentException") ∈ rc_tb := rc_tm2 (List.mem_of_getElem? (i := 126) rfl) rfl
set_option maxRecDepth 20000 in
theorem T_367 : (Jvm.Cond.methodLink "RecordCallsLaw" (15 : Nat) ({ cls := "RecordCalls", name := "end", desc := "(I)V" } : Jvm.MethodName)) ∈ rc_tb := rc_tm2 (List.mem_of_getElem? (i := 127) rfl) rfl
set_option maxRecDepth 20000 in
theorem T_368 : (Jvm.Cond.instanceMethod ({ cls := "RecordCalls", name := "end", desc := "(I)V" } : Jvm.MethodName)) ∈ rc_tb := rc_tm2 (List.mem_of_getElem? (i := 128) rfl) rfl
set_option maxRecDepth 20000 in
theorem T_369 : (Jvm.Cond.selects "RecordCalls" ({ cls := "RecordCalls", name := "end", desc := "(I)V" } : Jvm.MethodName) ({ cls := "RecordCalls", name := "end", desc := "(I)V" } : Jvm.MethodName)) ∈ rc_tb := rc_tm2 (List.mem_of_getElem? (i := 129) rfl) rfl
set_option maxRecDepth 20000 in
theorem T_370 : (Jvm.Cond.code ({ cls := "RecordCalls", name := "end", desc := "(I)V" } : Jvm.MethodName) prog_1_method_3_code (2 : Nat) (Option.none : Option Jvm.ClassFile.FieldType)) ∈ rc_tb := rc_tm2 (List.mem_of_getElem? (i := 130) rfl) rfl
set_option maxRecDepth 20000 in
theorem T_371 : (Jvm.Cond.classLink "RecordCalls" (55 : Nat) "java/lang/IllegalArgumentException") ∈ rc_tb := rc_tm2 (List.mem_of_getElem? (i := 131) rfl) rfl
set_option maxRecDepth 20000 in
theorem T_372 : (Jvm.Cond.instantiable "java/lang/IllegalArgumentException" (6 : Nat)) ∈ rc_tb := rc_tm2 (List.mem_of_getElem? (i := 132) rfl) rfl
set_option maxRecDepth 20000 in
theorem T_373 : (Jvm.Cond.castable "java/lang/IllegalArgumentException" "java/lang/IllegalArgumentException") ∈ rc_tb := rc_tm2 (List.mem_of_getElem? (i := 133) rfl) rfl
set_option maxRecDepth 20000 in
theorem T_374 : (Jvm.Cond.selects "java/lang/IllegalArgumentException" ({ cls := "java/lang/Throwable", name := "fillInStackTrace", desc := "(I)Ljava/lang/Throwable;" } : Jvm.MethodName) ({ cls := "java/lang/Throwable", name := "fillInStackTrace", desc := "(I)Ljava/lang/Throwable;" } : Jvm.MethodName)) ∈ rc_tb := rc_tm2 (List.mem_of_getElem? (i := 134) rfl) rfl
set_option maxRecDepth 20000 in
theorem T_375 : (Jvm.Cond.lays "java/lang/IllegalArgumentException" "java/lang/Throwable" "cause" "Ljava/lang/Throwable;") ∈ rc_tb := rc_tm2 (List.mem_of_getElem? (i := 135) rfl) rfl
set_option maxRecDepth 20000 in
theorem T_376 : (Jvm.Cond.lays "java/lang/IllegalArgumentException" "java/lang/Throwable" "stackTrace" "[Ljava/lang/StackTraceElement;") ∈ rc_tb := rc_tm2 (List.mem_of_getElem? (i := 136) rfl) rfl
set_option maxRecDepth 20000 in
theorem T_377 : (Jvm.Cond.lays "java/lang/IllegalArgumentException" "java/lang/Throwable" "suppressedExceptions" "Ljava/util/List;") ∈ rc_tb := rc_tm2 (List.mem_of_getElem? (i := 137) rfl) rfl
set_option maxRecDepth 20000 in
theorem T_378 : (Jvm.Cond.lays "java/lang/IllegalArgumentException" "java/lang/Throwable" "detailMessage" "Ljava/lang/String;") ∈ rc_tb := rc_tm2 (List.mem_of_getElem? (i := 138) rfl) rfl
set_option maxRecDepth 20000 in
theorem T_379 : (Jvm.Cond.lays "java/lang/IllegalArgumentException" "java/lang/Throwable" "backtrace" "Ljava/lang/Object;") ∈ rc_tb := rc_tm2 (List.mem_of_getElem? (i := 139) rfl) rfl
set_option maxRecDepth 20000 in
theorem T_380 : (Jvm.Cond.methodLink "RecordCalls" (57 : Nat) ({ cls := "java/lang/IllegalArgumentException", name := "<init>", desc := "()V" } : Jvm.MethodName)) ∈ rc_tb := rc_tm2 (List.mem_of_getElem? (i := 140) rfl) rfl
set_option maxRecDepth 20000 in
theorem T_381 : (Jvm.Cond.instanceMethod ({ cls := "java/lang/IllegalArgumentException", name := "<init>", desc := "()V" } : Jvm.MethodName)) ∈ rc_tb := rc_tm2 (List.mem_of_getElem? (i := 141) rfl) rfl
set_option maxRecDepth 20000 in
theorem T_382 : (Jvm.Cond.code ({ cls := "java/lang/IllegalArgumentException", name := "<init>", desc := "()V" } : Jvm.MethodName) prog_12_method_1_code (1 : Nat) (Option.none : Option Jvm.ClassFile.FieldType)) ∈ rc_tb := rc_tm2 (List.mem_of_getElem? (i := 142) rfl) rfl
set_option maxRecDepth 20000 in
theorem T_383 : (Jvm.Cond.methodLink "java/lang/IllegalArgumentException" (1 : Nat) ({ cls := "java/lang/RuntimeException", name := "<init>", desc := "()V" } : Jvm.MethodName)) ∈ rc_tb := rc_tm2 (List.mem_of_getElem? (i := 143) rfl) rfl
set_option maxRecDepth 20000 in
theorem T_384 : (Jvm.Cond.lays "java/lang/IllegalArgumentException" "java/lang/Throwable" "depth" "I") ∈ rc_tb := rc_tm2 (List.mem_of_getElem? (i := 144) rfl) rfl
set_option maxRecDepth 20000 in
theorem T_385 : (Jvm.Cond.superclass "java/lang/IllegalArgumentException" "java/lang/RuntimeException") ∈ rc_tb := rc_tm2 (List.mem_of_getElem? (i := 145) rfl) rfl
set_option maxRecDepth 20000 in
theorem T_386 : (Jvm.Cond.methodLink "RecordCalls" (58 : Nat) ({ cls := "RecordCalls$Row", name := "cutTo", desc := "(I)V" } : Jvm.MethodName)) ∈ rc_tb := rc_tm2 (List.mem_of_getElem? (i := 146) rfl) rfl
set_option maxRecDepth 20000 in
theorem T_387 : (Jvm.Cond.instanceMethod ({ cls := "RecordCalls$Row", name := "cutTo", desc := "(I)V" } : Jvm.MethodName)) ∈ rc_tb := rc_tm2 (List.mem_of_getElem? (i := 147) rfl) rfl
set_option maxRecDepth 20000 in
theorem T_388 : (Jvm.Cond.selects "RecordCalls$Row" ({ cls := "RecordCalls$Row", name := "cutTo", desc := "(I)V" } : Jvm.MethodName) ({ cls := "RecordCalls$Row", name := "cutTo", desc := "(I)V" } : Jvm.MethodName)) ∈ rc_tb := rc_tm2 (List.mem_of_getElem? (i := 148) rfl) rfl
set_option maxRecDepth 20000 in
theorem T_389 : (Jvm.Cond.code ({ cls := "RecordCalls$Row", name := "cutTo", desc := "(I)V" } : Jvm.MethodName) prog_6_method_4_code (2 : Nat) (Option.none : Option Jvm.ClassFile.FieldType)) ∈ rc_tb := rc_tm2 (List.mem_of_getElem? (i := 149) rfl) rfl
set_option maxRecDepth 20000 in
theorem T_390 : (Jvm.Cond.methodLink "RecordCallsLaw" (77 : Nat) ({ cls := "RecordCallsLaw", name := "record", desc := "(LRecordCalls;I[J)I" } : Jvm.MethodName)) ∈ rc_tb := rc_tm2 (List.mem_of_getElem? (i := 150) rfl) rfl
set_option maxRecDepth 20000 in
theorem T_391 : (Jvm.Cond.static ({ cls := "RecordCallsLaw", name := "record", desc := "(LRecordCalls;I[J)I" } : Jvm.MethodName)) ∈ rc_tb := rc_tm2 (List.mem_of_getElem? (i := 151) rfl) rfl
set_option maxRecDepth 20000 in
theorem T_392 : (Jvm.Cond.codeWith ({ cls := "RecordCallsLaw", name := "record", desc := "(LRecordCalls;I[J)I" } : Jvm.MethodName) method_5_code (4 : Nat) (Option.some Jvm.ClassFile.FieldType.int) [((0 : Nat), (9 : Nat), (12 : Nat), (19 : Nat))]) ∈ rc_tb := rc_tm2 (List.mem_of_getElem? (i := 152) rfl) rfl
set_option maxRecDepth 20000 in
theorem T_393 : (Jvm.Cond.methodLink "RecordCallsLaw" (21 : Nat) ({ cls := "RecordCalls", name := "record", desc := "(I)I" } : Jvm.MethodName)) ∈ rc_tb := rc_tm2 (List.mem_of_getElem? (i := 153) rfl) rfl
set_option maxRecDepth 20000 in
theorem T_394 : (Jvm.Cond.instanceMethod ({ cls := "RecordCalls", name := "record", desc := "(I)I" } : Jvm.MethodName)) ∈ rc_tb := rc_tm2 (List.mem_of_getElem? (i := 154) rfl) rfl
set_option maxRecDepth 20000 in
theorem T_395 : (Jvm.Cond.selects "RecordCalls" ({ cls := "RecordCalls", name := "record", desc := "(I)I" } : Jvm.MethodName) ({ cls := "RecordCalls", name := "record", desc := "(I)I" } : Jvm.MethodName)) ∈ rc_tb := rc_tm2 (List.mem_of_getElem? (i := 155) rfl) rfl
set_option maxRecDepth 20000 in
theorem T_396 : (Jvm.Cond.code ({ cls := "RecordCalls", name := "record", desc := "(I)I" } : Jvm.MethodName) prog_1_method_5_code (8 : Nat) (Option.some Jvm.ClassFile.FieldType.int)) ∈ rc_tb := rc_tm2 (List.mem_of_getElem? (i := 156) rfl) rfl
set_option maxRecDepth 20000 in
theorem T_397 : (Jvm.Cond.methodLink "RecordCalls" (72 : Nat) ({ cls := "RecordCalls", name := "fragments", desc := "(II)I" } : Jvm.MethodName)) ∈ rc_tb := rc_tm2 (List.mem_of_getElem? (i := 157) rfl) rfl
set_option maxRecDepth 20000 in
theorem T_398 : (Jvm.Cond.static ({ cls := "RecordCalls", name := "fragments", desc := "(II)I" } : Jvm.MethodName)) ∈ rc_tb := rc_tm2 (List.mem_of_getElem? (i := 158) rfl) rfl
set_option maxRecDepth 20000 in
theorem T_399 : (Jvm.Cond.code ({ cls := "RecordCalls", name := "fragments", desc := "(II)I" } : Jvm.MethodName) prog_1_method_23_code (2 : Nat) (Option.some Jvm.ClassFile.FieldType.int)) ∈ rc_tb := rc_tm2 (List.mem_of_getElem? (i := 159) rfl) rfl
set_option maxRecDepth 20000 in
theorem T_400 : (Jvm.Cond.methodLink "RecordCalls" (76 : Nat) ({ cls := "java/lang/Math", name := "min", desc := "(II)I" } : Jvm.MethodName)) ∈ rc_tb := rc_tm2 (List.mem_of_getElem? (i := 160) rfl) rfl
set_option maxRecDepth 20000 in
theorem T_401 : (Jvm.Cond.constant "RecordCalls" (81 : Nat) (-2147483648 : Int32)) ∈ rc_tb := rc_tm2 (List.mem_of_getElem? (i := 161) rfl) rfl
set_option maxRecDepth 20000 in
theorem T_402 : (Jvm.Cond.methodLink "RecordCallsLaw" (83 : Nat) ({ cls := "RecordCallsLaw", name := "call", desc := "(LRecordCalls;IIIZJ[J)I" } : Jvm.MethodName)) ∈ rc_tb := rc_tm2 (List.mem_of_getElem? (i := 162) rfl) rfl
set_option maxRecDepth 20000 in
theorem T_403 : (Jvm.Cond.static ({ cls := "RecordCallsLaw", name := "call", desc := "(LRecordCalls;IIIZJ[J)I" } : Jvm.MethodName)) ∈ rc_tb := rc_tm2 (List.mem_of_getElem? (i := 163) rfl) rfl
set_option maxRecDepth 20000 in
theorem T_404 : (Jvm.Cond.codeWith ({ cls := "RecordCallsLaw", name := "call", desc := "(LRecordCalls;IIIZJ[J)I" } : Jvm.MethodName) method_6_code (9 : Nat) (Option.some Jvm.ClassFile.FieldType.int) [((0 : Nat), (16 : Nat), (19 : Nat), (19 : Nat))]) ∈ rc_tb := rc_tm2 (List.mem_of_getElem? (i := 164) rfl) rfl
set_option maxRecDepth 20000 in
theorem T_405 : (Jvm.Cond.methodLink "RecordCallsLaw" (25 : Nat) ({ cls := "RecordCalls", name := "call", desc := "(IIIZJ)I" } : Jvm.MethodName)) ∈ rc_tb := rc_tm2 (List.mem_of_getElem? (i := 165) rfl) rfl
set_option maxRecDepth 20000 in
theorem T_406 : (Jvm.Cond.instanceMethod ({ cls := "RecordCalls", name := "call", desc := "(IIIZJ)I" } : Jvm.MethodName)) ∈ rc_tb := rc_tm2 (List.mem_of_getElem? (i := 166) rfl) rfl
set_option maxRecDepth 20000 in
theorem T_407 : (Jvm.Cond.selects "RecordCalls" ({ cls := "RecordCalls", name := "call", desc := "(IIIZJ)I" } : Jvm.MethodName) ({ cls := "RecordCalls", name := "call", desc := "(IIIZJ)I" } : Jvm.MethodName)) ∈ rc_tb := rc_tm2 (List.mem_of_getElem? (i := 167) rfl) rfl
set_option maxRecDepth 20000 in
theorem T_408 : (Jvm.Cond.code ({ cls := "RecordCalls", name := "call", desc := "(IIIZJ)I" } : Jvm.MethodName) prog_1_method_6_code (7 : Nat) (Option.some Jvm.ClassFile.FieldType.int)) ∈ rc_tb := rc_tm2 (List.mem_of_getElem? (i := 168) rfl) rfl
set_option maxRecDepth 20000 in
theorem T_409 : (Jvm.Cond.constant "RecordCalls" (85 : Nat) (400100 : Int32)) ∈ rc_tb := rc_tm2 (List.mem_of_getElem? (i := 169) rfl) rfl
set_option maxRecDepth 20000 in
theorem T_410 : (Jvm.Cond.methodLink "RecordCalls" (86 : Nat) ({ cls := "RecordCalls", name := "addNobody", desc := "(LRecordCalls$Row;)V" } : Jvm.MethodName)) ∈ rc_tb := rc_tm2 (List.mem_of_getElem? (i := 170) rfl) rfl
set_option maxRecDepth 20000 in
theorem T_411 : (Jvm.Cond.static ({ cls := "RecordCalls", name := "addNobody", desc := "(LRecordCalls$Row;)V" } : Jvm.MethodName)) ∈ rc_tb := rc_tm2 (List.mem_of_getElem? (i := 171) rfl) rfl
set_option maxRecDepth 20000 in
theorem T_412 : (Jvm.Cond.code ({ cls := "RecordCalls", name := "addNobody", desc := "(LRecordCalls$Row;)V" } : Jvm.MethodName) prog_1_method_22_code (1 : Nat) (Option.none : Option Jvm.ClassFile.FieldType)) ∈ rc_tb := rc_tm2 (List.mem_of_getElem? (i := 172) rfl) rfl
set_option maxRecDepth 20000 in
theorem T_413 : (Jvm.Cond.methodLink "RecordCalls" (90 : Nat) ({ cls := "RecordCalls$Row", name := "addBytes", desc := "(LRecordCalls$Row;II)V" } : Jvm.MethodName)) ∈ rc_tb := rc_tm2 (List.mem_of_getElem? (i := 173) rfl) rfl
set_option maxRecDepth 20000 in
theorem T_414 : (Jvm.Cond.instanceMethod ({ cls := "RecordCalls$Row", name := "addBytes", desc := "(LRecordCalls$Row;II)V" } : Jvm.MethodName)) ∈ rc_tb := rc_tm2 (List.mem_of_getElem? (i := 174) rfl) rfl
set_option maxRecDepth 20000 in
theorem T_415 : (Jvm.Cond.selects "RecordCalls$Row" ({ cls := "RecordCalls$Row", name := "addBytes", desc := "(LRecordCalls$Row;II)V" } : Jvm.MethodName) ({ cls := "RecordCalls$Row", name := "addBytes", desc := "(LRecordCalls$Row;II)V" } : Jvm.MethodName)) ∈ rc_tb := rc_tm2 (List.mem_of_getElem? (i := 175) rfl) rfl
set_option maxRecDepth 20000 in
theorem T_416 : (Jvm.Cond.code ({ cls := "RecordCalls$Row", name := "addBytes", desc := "(LRecordCalls$Row;II)V" } : Jvm.MethodName) prog_6_method_13_code (5 : Nat) (Option.none : Option Jvm.ClassFile.FieldType)) ∈ rc_tb := rc_tm2 (List.mem_of_getElem? (i := 176) rfl) rfl
set_option maxRecDepth 20000 in
theorem T_417 : (Jvm.Cond.methodLink "RecordCalls$Row" (35 : Nat) ({ cls := "RecordCalls$Row", name := "addWord", desc := "(I)V" } : Jvm.MethodName)) ∈ rc_tb := rc_tm2 (List.mem_of_getElem? (i := 177) rfl) rfl
set_option maxRecDepth 20000 in
theorem T_418 : (Jvm.Cond.methodLink "RecordCalls$Row" (44 : Nat) ({ cls := "RecordCalls$Row", name := "addPart", desc := "(LRecordCalls$Row;II)V" } : Jvm.MethodName)) ∈ rc_tb := rc_tm2 (List.mem_of_getElem? (i := 178) rfl) rfl
set_option maxRecDepth 20000 in
theorem T_419 : (Jvm.Cond.methodLinkNest "RecordCalls$Row" (48 : Nat) ({ cls := "RecordCalls", name := "filled", desc := "(I)I" } : Jvm.MethodName) "RecordCalls") ∈ rc_tb := rc_tm2 (List.mem_of_getElem? (i := 179) rfl) rfl
set_option maxRecDepth 20000 in
theorem T_420 : (Jvm.Cond.static ({ cls := "RecordCalls", name := "filled", desc := "(I)I" } : Jvm.MethodName)) ∈ rc_tb := rc_tm2 (List.mem_of_getElem? (i := 180) rfl) rfl
set_option maxRecDepth 20000 in
theorem T_421 : (Jvm.Cond.code ({ cls := "RecordCalls", name := "filled", desc := "(I)I" } : Jvm.MethodName) prog_1_method_30_code (1 : Nat) (Option.some Jvm.ClassFile.FieldType.int)) ∈ rc_tb := rc_tm2 (List.mem_of_getElem? (i := 181) rfl) rfl
set_option maxRecDepth 20000 in
theorem T_422 : (Jvm.Cond.methodLink "RecordCalls$Row" (52 : Nat) ({ cls := "RecordCalls$Row", name := "add", desc := "(I)V" } : Jvm.MethodName)) ∈ rc_tb := rc_tm2 (List.mem_of_getElem? (i := 182) rfl) rfl
set_option maxRecDepth 20000 in
theorem T_423 : (Jvm.Cond.instanceMethod ({ cls := "RecordCalls$Row", name := "add", desc := "(I)V" } : Jvm.MethodName)) ∈ rc_tb := rc_tm2 (List.mem_of_getElem? (i := 183) rfl) rfl
set_option maxRecDepth 20000 in
theorem T_424 : (Jvm.Cond.selects "RecordCalls$Row" ({ cls := "RecordCalls$Row", name := "add", desc := "(I)V" } : Jvm.MethodName) ({ cls := "RecordCalls$Row", name := "add", desc := "(I)V" } : Jvm.MethodName)) ∈ rc_tb := rc_tm2 (List.mem_of_getElem? (i := 184) rfl) rfl
set_option maxRecDepth 20000 in
theorem T_425 : (Jvm.Cond.code ({ cls := "RecordCalls$Row", name := "add", desc := "(I)V" } : Jvm.MethodName) prog_6_method_8_code (2 : Nat) (Option.none : Option Jvm.ClassFile.FieldType)) ∈ rc_tb := rc_tm2 (List.mem_of_getElem? (i := 185) rfl) rfl
set_option maxRecDepth 20000 in
theorem T_426 : (Jvm.Cond.methodLink "RecordCalls" (93 : Nat) ({ cls := "RecordCalls$Row", name := "addLong", desc := "(J)V" } : Jvm.MethodName)) ∈ rc_tb := rc_tm2 (List.mem_of_getElem? (i := 186) rfl) rfl
set_option maxRecDepth 20000 in
theorem T_427 : (Jvm.Cond.instanceMethod ({ cls := "RecordCalls$Row", name := "addLong", desc := "(J)V" } : Jvm.MethodName)) ∈ rc_tb := rc_tm2 (List.mem_of_getElem? (i := 187) rfl) rfl
set_option maxRecDepth 20000 in
theorem T_428 : (Jvm.Cond.selects "RecordCalls$Row" ({ cls := "RecordCalls$Row", name := "addLong", desc := "(J)V" } : Jvm.MethodName) ({ cls := "RecordCalls$Row", name := "addLong", desc := "(J)V" } : Jvm.MethodName)) ∈ rc_tb := rc_tm2 (List.mem_of_getElem? (i := 188) rfl) rfl
set_option maxRecDepth 20000 in
theorem T_429 : (Jvm.Cond.code ({ cls := "RecordCalls$Row", name := "addLong", desc := "(J)V" } : Jvm.MethodName) prog_6_method_10_code (3 : Nat) (Option.none : Option Jvm.ClassFile.FieldType)) ∈ rc_tb := rc_tm2 (List.mem_of_getElem? (i := 189) rfl) rfl
set_option maxRecDepth 20000 in
theorem T_430 : (Jvm.Cond.methodLink "RecordCalls" (97 : Nat) ({ cls := "RecordCalls", name := "addOneFragment", desc := "(LRecordCalls$Row;)V" } : Jvm.MethodName)) ∈ rc_tb := rc_tm2 (List.mem_of_getElem? (i := 190) rfl) rfl
set_option maxRecDepth 20000 in
theorem T_431 : (Jvm.Cond.privateMethod ({ cls := "RecordCalls", name := "addOneFragment", desc := "(LRecordCalls$Row;)V" } : Jvm.MethodName)) ∈ rc_tb := rc_tm2 (List.mem_of_getElem? (i := 191) rfl) rfl
set_option maxRecDepth 20000 in
theorem T_432 : (Jvm.Cond.instanceMethod ({ cls := "RecordCalls", name := "addOneFragment", desc := "(LRecordCalls$Row;)V" } : Jvm.MethodName)) ∈ rc_tb := rc_tm2 (List.mem_of_getElem? (i := 192) rfl) rfl
set_option maxRecDepth 20000 in
theorem T_433 : (Jvm.Cond.code ({ cls := "RecordCalls", name := "addOneFragment", desc := "(LRecordCalls$Row;)V" } : Jvm.MethodName) prog_1_method_21_code (3 : Nat) (Option.none : Option Jvm.ClassFile.FieldType)) ∈ rc_tb := rc_tm2 (List.mem_of_getElem? (i := 193) rfl) rfl
set_option maxRecDepth 20000 in
theorem T_434 : (Jvm.Cond.methodLink "RecordCallsLaw" (87 : Nat) ({ cls := "RecordCallsLaw", name := "push", desc := "(LRecordCalls;IIII[J)I" } : Jvm.MethodName)) ∈ rc_tb := rc_tm2 (List.mem_of_getElem? (i := 194) rfl) rfl
set_option maxRecDepth 20000 in
theorem T_435 : (Jvm.Cond.static ({ cls := "RecordCallsLaw", name := "push", desc := "(LRecordCalls;IIII[J)I" } : Jvm.MethodName)) ∈ rc_tb := rc_tm2 (List.mem_of_getElem? (i := 195) rfl) rfl
set_option maxRecDepth 20000 in
theorem T_436 : (Jvm.Cond.codeWith ({ cls := "RecordCallsLaw", name := "push", desc := "(LRecordCalls;IIII[J)I" } : Jvm.MethodName) method_7_code (7 : Nat) (Option.some Jvm.ClassFile.FieldType.int) [((0 : Nat), (14 : Nat), (17 : Nat), (33 : Nat))]) ∈ rc_tb := rc_tm2 (List.mem_of_getElem? (i := 196) rfl) rfl
set_option maxRecDepth 20000 in
theorem T_437 : (Jvm.Cond.classLink "RecordCallsLaw" (33 : Nat) "java/lang/IndexOutOfBoundsException") ∈ rc_tb := rc_tm2 (List.mem_of_getElem? (i := 197) rfl) rfl
set_option maxRecDepth 20000 in
theorem T_438 : (Jvm.Cond.methodLink "RecordCallsLaw" (29 : Nat) ({ cls := "RecordCalls", name := "push", desc := "(IIII)I" } : Jvm.MethodName)) ∈ rc_tb := rc_tm2 (List.mem_of_getElem? (i := 198) rfl) rfl
set_option maxRecDepth 20000 in
theorem T_439 : (Jvm.Cond.instanceMethod ({ cls := "RecordCalls", name := "push", desc := "(IIII)I" } : Jvm.MethodName)) ∈ rc_tb := rc_tm2 (List.mem_of_getElem? (i := 199) rfl) rfl
set_option maxRecDepth 20000 in
theorem T_440 : (Jvm.Cond.selects "RecordCalls" ({ cls := "RecordCalls", name := "push", desc := "(IIII)I" } : Jvm.MethodName) ({ cls := "RecordCalls", name := "push", desc := "(IIII)I" } : Jvm.MethodName)) ∈ rc_tb := rc_tm2 (List.mem_of_getElem? (i := 200) rfl) rfl
set_option maxRecDepth 20000 in
theorem T_441 : (Jvm.Cond.code ({ cls := "RecordCalls", name := "push", desc := "(IIII)I" } : Jvm.MethodName) prog_1_method_7_code (10 : Nat) (Option.some Jvm.ClassFile.FieldType.int)) ∈ rc_tb := rc_tm2 (List.mem_of_getElem? (i := 201) rfl) rfl
set_option maxRecDepth 20000 in
theorem T_442 : (Jvm.Cond.methodLink "RecordCalls" (100 : Nat) ({ cls := "RecordCalls", name := "isConnection", desc := "(I)Z" } : Jvm.MethodName)) ∈ rc_tb := rc_tm2 (List.mem_of_getElem? (i := 202) rfl) rfl
set_option maxRecDepth 20000 in
theorem T_443 : (Jvm.Cond.static ({ cls := "RecordCalls", name := "isConnection", desc := "(I)Z" } : Jvm.MethodName)) ∈ rc_tb := rc_tm2 (List.mem_of_getElem? (i := 203) rfl) rfl
set_option maxRecDepth 20000 in
theorem T_444 : (Jvm.Cond.code ({ cls := "RecordCalls", name := "isConnection", desc := "(I)Z" } : Jvm.MethodName) prog_1_method_16_code (1 : Nat) (Option.some Jvm.ClassFile.FieldType.boolean)) ∈ rc_tb := rc_tm2 (List.mem_of_getElem? (i := 204) rfl) rfl
set_option maxRecDepth 20000 in
theorem T_445 : (Jvm.Cond.methodLink "RecordCalls" (104 : Nat) ({ cls := "RecordCalls", name := "isSlot", desc := "(I)Z" } : Jvm.MethodName)) ∈ rc_tb := rc_tm2 (List.mem_of_getElem? (i := 205) rfl) rfl
set_option maxRecDepth 20000 in
theorem T_446 : (Jvm.Cond.privateMethod ({ cls := "RecordCalls", name := "isSlot", desc := "(I)Z" } : Jvm.MethodName)) ∈ rc_tb := rc_tm2 (List.mem_of_getElem? (i := 206) rfl) rfl
set_option maxRecDepth 20000 in
theorem T_447 : (Jvm.Cond.instanceMethod ({ cls := "RecordCalls", name := "isSlot", desc := "(I)Z" } : Jvm.MethodName)) ∈ rc_tb := rc_tm2 (List.mem_of_getElem? (i := 207) rfl) rfl
set_option maxRecDepth 20000 in
theorem T_448 : (Jvm.Cond.code ({ cls := "RecordCalls", name := "isSlot", desc := "(I)Z" } : Jvm.MethodName) prog_1_method_17_code (2 : Nat) (Option.some Jvm.ClassFile.FieldType.boolean)) ∈ rc_tb := rc_tm2 (List.mem_of_getElem? (i := 208) rfl) rfl
set_option maxRecDepth 20000 in
theorem T_449 : (Jvm.Cond.classLink "RecordCalls" (107 : Nat) "java/lang/IndexOutOfBoundsException") ∈ rc_tb := rc_tm2 (List.mem_of_getElem? (i := 209) rfl) rfl
set_option maxRecDepth 20000 in
theorem T_450 : (Jvm.Cond.instantiable "java/lang/IndexOutOfBoundsException" (6 : Nat)) ∈ rc_tb := rc_tm2 (List.mem_of_getElem? (i := 210) rfl) rfl
set_option maxRecDepth 20000 in
theorem T_451 : (Jvm.Cond.castable "java/lang/IndexOutOfBoundsException" "java/lang/IndexOutOfBoundsException") ∈ rc_tb := rc_tm2 (List.mem_of_getElem? (i := 211) rfl) rfl
set_option maxRecDepth 20000 in
theorem T_452 : (Jvm.Cond.selects "java/lang/IndexOutOfBoundsException" ({ cls := "java/lang/Throwable", name := "fillInStackTrace", desc := "(I)Ljava/lang/Throwable;" } : Jvm.MethodName) ({ cls := "java/lang/Throwable", name := "fillInStackTrace", desc := "(I)Ljava/lang/Throwable;" } : Jvm.MethodName)) ∈ rc_tb := rc_tm2 (List.mem_of_getElem? (i := 212) rfl) rfl
set_option maxRecDepth 20000 in
theorem T_453 : (Jvm.Cond.lays "java/lang/IndexOutOfBoundsException" "java/lang/Throwable" "cause" "Ljava/lang/Throwable;") ∈ rc_tb := rc_tm2 (List.mem_of_getElem? (i := 213) rfl) rfl
set_option maxRecDepth 20000 in
theorem T_454 : (Jvm.Cond.lays "java/lang/IndexOutOfBoundsException" "java/lang/Throwable" "stackTrace" "[Ljava/lang/StackTraceElement;") ∈ rc_tb := rc_tm2 (List.mem_of_getElem? (i := 214) rfl) rfl
set_option maxRecDepth 20000 in
theorem T_455 : (Jvm.Cond.lays "java/lang/IndexOutOfBoundsException" "java/lang/Throwable" "suppressedExceptions" "Ljava/util/List;") ∈ rc_tb := rc_tm2 (List.mem_of_getElem? (i := 215) rfl) rfl
set_option maxRecDepth 20000 in
theorem T_456 : (Jvm.Cond.lays "java/lang/IndexOutOfBoundsException" "java/lang/Throwable" "detailMessage" "Ljava/lang/String;") ∈ rc_tb := rc_tm2 (List.mem_of_getElem? (i := 216) rfl) rfl
set_option maxRecDepth 20000 in
theorem T_457 : (Jvm.Cond.lays "java/lang/IndexOutOfBoundsException" "java/lang/Throwable" "backtrace" "Ljava/lang/Object;") ∈ rc_tb := rc_tm2 (List.mem_of_getElem? (i := 217) rfl) rfl
set_option maxRecDepth 20000 in
theorem T_458 : (Jvm.Cond.methodLink "RecordCalls" (109 : Nat) ({ cls := "java/lang/IndexOutOfBoundsException", name := "<init>", desc := "()V" } : Jvm.MethodName)) ∈ rc_tb := rc_tm2 (List.mem_of_getElem? (i := 218) rfl) rfl
set_option maxRecDepth 20000 in
theorem T_459 : (Jvm.Cond.instanceMethod ({ cls := "java/lang/IndexOutOfBoundsException", name := "<init>", desc := "()V" } : Jvm.MethodName)) ∈ rc_tb := rc_tm2 (List.mem_of_getElem? (i := 219) rfl) rfl
set_option maxRecDepth 20000 in
theorem T_460 : (Jvm.Cond.code ({ cls := "java/lang/IndexOutOfBoundsException", name := "<init>", desc := "()V" } : Jvm.MethodName) prog_13_method_1_code (1 : Nat) (Option.none : Option Jvm.ClassFile.FieldType)) ∈ rc_tb := rc_tm2 (List.mem_of_getElem? (i := 220) rfl) rfl
set_option maxRecDepth 20000 in
theorem T_461 : (Jvm.Cond.methodLink "java/lang/IndexOutOfBoundsException" (1 : Nat) ({ cls := "java/lang/RuntimeException", name := "<init>", desc := "()V" } : Jvm.MethodName)) ∈ rc_tb := rc_tm2 (List.mem_of_getElem? (i := 221) rfl) rfl
set_option maxRecDepth 20000 in
theorem T_462 : (Jvm.Cond.lays "java/lang/IndexOutOfBoundsException" "java/lang/Throwable" "depth" "I") ∈ rc_tb := rc_tm2 (List.mem_of_getElem? (i := 222) rfl) rfl
set_option maxRecDepth 20000 in
theorem T_463 : (Jvm.Cond.superclass "java/lang/IndexOutOfBoundsException" "java/lang/RuntimeException") ∈ rc_tb := rc_tm2 (List.mem_of_getElem? (i := 223) rfl) rfl
set_option maxRecDepth 20000 in
theorem T_464 : (Jvm.Cond.methodLink "RecordCalls" (114 : Nat) ({ cls := "RecordCalls$Row", name := "at", desc := "(I)I" } : Jvm.MethodName)) ∈ rc_tb := rc_tm2 (List.mem_of_getElem? (i := 224) rfl) rfl
set_option maxRecDepth 20000 in
theorem T_465 : (Jvm.Cond.methodLink "RecordCalls" (118 : Nat) ({ cls := "RecordCalls$Connection", name := "isWholeWith", desc := "(I)Z" } : Jvm.MethodName)) ∈ rc_tb := rc_tm2 (List.mem_of_getElem? (i := 225) rfl) rfl
set_option maxRecDepth 20000 in
theorem T_466 : (Jvm.Cond.instanceMethod ({ cls := "RecordCalls$Connection", name := "isWholeWith", desc := "(I)Z" } : Jvm.MethodName)) ∈ rc_tb := rc_tm2 (List.mem_of_getElem? (i := 226) rfl) rfl
set_option maxRecDepth 20000 in
theorem T_467 : (Jvm.Cond.selects "RecordCalls$Connection" ({ cls := "RecordCalls$Connection", name := "isWholeWith", desc := "(I)Z" } : Jvm.MethodName) ({ cls := "RecordCalls$Connection", name := "isWholeWith", desc := "(I)Z" } : Jvm.MethodName)) ∈ rc_tb := rc_tm2 (List.mem_of_getElem? (i := 227) rfl) rfl
set_option maxRecDepth 20000 in
theorem T_468 : (Jvm.Cond.code ({ cls := "RecordCalls$Connection", name := "isWholeWith", desc := "(I)Z" } : Jvm.MethodName) prog_2_method_2_code (2 : Nat) (Option.some Jvm.ClassFile.FieldType.boolean)) ∈ rc_tb := rc_tm2 (List.mem_of_getElem? (i := 228) rfl) rfl
set_option maxRecDepth 20000 in
theorem T_469 : (Jvm.Cond.methodLink "RecordCalls$Connection" (39 : Nat) ({ cls := "RecordCalls$Connection", name := "takeHead", desc := "(I)V" } : Jvm.MethodName)) ∈ rc_tb := rc_tm2 (List.mem_of_getElem? (i := 229) rfl) rfl
set_option maxRecDepth 20000 in
theorem T_470 : (Jvm.Cond.privateMethod ({ cls := "RecordCalls$Connection", name := "takeHead", desc := "(I)V" } : Jvm.MethodName)) ∈ rc_tb := rc_tm2 (List.mem_of_getElem? (i := 230) rfl) rfl
set_option maxRecDepth 20000 in
theorem T_471 : (Jvm.Cond.instanceMethod ({ cls := "RecordCalls$Connection", name := "takeHead", desc := "(I)V" } : Jvm.MethodName)) ∈ rc_tb := rc_tm2 (List.mem_of_getElem? (i := 231) rfl) rfl
set_option maxRecDepth 20000 in
theorem T_472 : (Jvm.Cond.code ({ cls := "RecordCalls$Connection", name := "takeHead", desc := "(I)V" } : Jvm.MethodName) prog_2_method_3_code (2 : Nat) (Option.none : Option Jvm.ClassFile.FieldType)) ∈ rc_tb := rc_tm2 (List.mem_of_getElem? (i := 232) rfl) rfl
set_option maxRecDepth 20000 in
theorem T_473 : (Jvm.Cond.constant "RecordCalls$Connection" (47 : Nat) (2147483647 : Int32)) ∈ rc_tb := rc_tm2 (List.mem_of_getElem? (i := 233) rfl) rfl
set_option maxRecDepth 20000 in
theorem T_474 : (Jvm.Cond.methodLink "RecordCalls$Connection" (48 : Nat) ({ cls := "RecordCalls$Row", name := "size", desc := "()I" } : Jvm.MethodName)) ∈ rc_tb := rc_tm2 (List.mem_of_getElem? (i := 234) rfl) rfl
set_option maxRecDepth 20000 in
theorem T_475 : (Jvm.Cond.methodLink "RecordCalls$Connection" (43 : Nat) ({ cls := "RecordCalls$Row", name := "add", desc := "(I)V" } : Jvm.MethodName)) ∈ rc_tb := rc_tm2 (List.mem_of_getElem? (i := 235) rfl) rfl
set_option maxRecDepth 20000 in
theorem T_476 : (Jvm.Cond.constant "RecordCalls$Connection" (46 : Nat) (-2147483648 : Int32)) ∈ rc_tb := rc_tm2 (List.mem_of_getElem? (i := 236) rfl) rfl
set_option maxRecDepth 20000 in
theorem T_477 : (Jvm.Cond.methodLink "RecordCalls" (128 : Nat) ({ cls := "RecordCalls$Server", name := "replyTo", desc := "(LRecordCalls$Row;LRecordCalls$Replies;)LRecordCalls$Row;" } : Jvm.MethodName)) ∈ rc_tb := rc_tm2 (List.mem_of_getElem? (i := 237) rfl) rfl
set_option maxRecDepth 20000 in
theorem T_478 : (Jvm.Cond.instanceMethod ({ cls := "RecordCalls$Server", name := "replyTo", desc := "(LRecordCalls$Row;LRecordCalls$Replies;)LRecordCalls$Row;" } : Jvm.MethodName)) ∈ rc_tb := rc_tm2 (List.mem_of_getElem? (i := 238) rfl) rfl
set_option maxRecDepth 20000 in
theorem T_479 : (Jvm.Cond.selects "RecordCalls$Server" ({ cls := "RecordCalls$Server", name := "replyTo", desc := "(LRecordCalls$Row;LRecordCalls$Replies;)LRecordCalls$Row;" } : Jvm.MethodName) ({ cls := "RecordCalls$Server", name := "replyTo", desc := "(LRecordCalls$Row;LRecordCalls$Replies;)LRecordCalls$Row;" } : Jvm.MethodName)) ∈ rc_tb := rc_tm2 (List.mem_of_getElem? (i := 239) rfl) rfl
set_option maxRecDepth 20000 in
theorem T_480 : (Jvm.Cond.code ({ cls := "RecordCalls$Server", name := "replyTo", desc := "(LRecordCalls$Row;LRecordCalls$Replies;)LRecordCalls$Row;" } : Jvm.MethodName) prog_7_method_2_code (6 : Nat) (Option.some (Jvm.ClassFile.FieldType.object "RecordCalls$Row"))) ∈ rc_tb := rc_tm3 (List.mem_of_getElem? (i := 0) rfl) rfl
set_option maxRecDepth 20000 in
theorem T_481 : (Jvm.Cond.methodLink "RecordCalls$Server" (65 : Nat) ({ cls := "RecordCalls$Row", name := "size", desc := "()I" } : Jvm.MethodName)) ∈ rc_tb := rc_tm3 (List.mem_of_getElem? (i := 1) rfl) rfl
set_option maxRecDepth 20000 in
theorem T_482 : (Jvm.Cond.methodLink "RecordCalls$Server" (69 : Nat) ({ cls := "RecordCalls$Row", name := "wordAt", desc := "(I)I" } : Jvm.MethodName)) ∈ rc_tb := rc_tm3 (List.mem_of_getElem? (i := 2) rfl) rfl
set_option maxRecDepth 20000 in
theorem T_483 : (Jvm.Cond.instanceMethod ({ cls := "RecordCalls$Row", name := "wordAt", desc := "(I)I" } : Jvm.MethodName)) ∈ rc_tb := rc_tm3 (List.mem_of_getElem? (i := 3) rfl) rfl
set_option maxRecDepth 20000 in
theorem T_484 : (Jvm.Cond.selects "RecordCalls$Row" ({ cls := "RecordCalls$Row", name := "wordAt", desc := "(I)I" } : Jvm.MethodName) ({ cls := "RecordCalls$Row", name := "wordAt", desc := "(I)I" } : Jvm.MethodName)) ∈ rc_tb := rc_tm3 (List.mem_of_getElem? (i := 4) rfl) rfl
set_option maxRecDepth 20000 in
theorem T_485 : (Jvm.Cond.code ({ cls := "RecordCalls$Row", name := "wordAt", desc := "(I)I" } : Jvm.MethodName) prog_6_method_6_code (2 : Nat) (Option.some Jvm.ClassFile.FieldType.int)) ∈ rc_tb := rc_tm3 (List.mem_of_getElem? (i := 5) rfl) rfl
set_option maxRecDepth 20000 in
theorem T_486 : (Jvm.Cond.methodLink "RecordCalls$Server" (73 : Nat) ({ cls := "RecordCalls$Replies", name := "find", desc := "(I)LRecordCalls$Row;" } : Jvm.MethodName)) ∈ rc_tb := rc_tm3 (List.mem_of_getElem? (i := 6) rfl) rfl
set_option maxRecDepth 20000 in
theorem T_487 : (Jvm.Cond.instanceMethod ({ cls := "RecordCalls$Replies", name := "find", desc := "(I)LRecordCalls$Row;" } : Jvm.MethodName)) ∈ rc_tb := rc_tm3 (List.mem_of_getElem? (i := 7) rfl) rfl
set_option maxRecDepth 20000 in
theorem T_488 : (Jvm.Cond.selects "RecordCalls$Replies" ({ cls := "RecordCalls$Replies", name := "find", desc := "(I)LRecordCalls$Row;" } : Jvm.MethodName) ({ cls := "RecordCalls$Replies", name := "find", desc := "(I)LRecordCalls$Row;" } : Jvm.MethodName)) ∈ rc_tb := rc_tm3 (List.mem_of_getElem? (i := 8) rfl) rfl
set_option maxRecDepth 20000 in
theorem T_489 : (Jvm.Cond.code ({ cls := "RecordCalls$Replies", name := "find", desc := "(I)LRecordCalls$Row;" } : Jvm.MethodName) prog_5_method_2_code (3 : Nat) (Option.some (Jvm.ClassFile.FieldType.object "RecordCalls$Row"))) ∈ rc_tb := rc_tm3 (List.mem_of_getElem? (i := 9) rfl) rfl
set_option maxRecDepth 20000 in
theorem T_490 : (Jvm.Cond.methodLink "RecordCalls$Server" (79 : Nat) ({ cls := "RecordCalls$Server", name := "verdictOn", desc := "(LRecordCalls$Row;)I" } : Jvm.MethodName)) ∈ rc_tb := rc_tm3 (List.mem_of_getElem? (i := 10) rfl) rfl
set_option maxRecDepth 20000 in
theorem T_491 : (Jvm.Cond.privateMethod ({ cls := "RecordCalls$Server", name := "verdictOn", desc := "(LRecordCalls$Row;)I" } : Jvm.MethodName)) ∈ rc_tb := rc_tm3 (List.mem_of_getElem? (i := 11) rfl) rfl
set_option maxRecDepth 20000 in
theorem T_492 : (Jvm.Cond.instanceMethod ({ cls := "RecordCalls$Server", name := "verdictOn", desc := "(LRecordCalls$Row;)I" } : Jvm.MethodName)) ∈ rc_tb := rc_tm3 (List.mem_of_getElem? (i := 12) rfl) rfl
set_option maxRecDepth 20000 in
theorem T_493 : (Jvm.Cond.code ({ cls := "RecordCalls$Server", name := "verdictOn", desc := "(LRecordCalls$Row;)I" } : Jvm.MethodName) prog_7_method_3_code (8 : Nat) (Option.some Jvm.ClassFile.FieldType.int)) ∈ rc_tb := rc_tm3 (List.mem_of_getElem? (i := 13) rfl) rfl
set_option maxRecDepth 20000 in
theorem T_494 : (Jvm.Cond.methodLink "RecordCalls$Server" (98 : Nat) ({ cls := "RecordCalls$Reader", name := "begin", desc := "(LRecordCalls$Row;I)V" } : Jvm.MethodName)) ∈ rc_tb := rc_tm3 (List.mem_of_getElem? (i := 14) rfl) rfl
set_option maxRecDepth 20000 in
theorem T_495 : (Jvm.Cond.instanceMethod ({ cls := "RecordCalls$Reader", name := "begin", desc := "(LRecordCalls$Row;I)V" } : Jvm.MethodName)) ∈ rc_tb := rc_tm3 (List.mem_of_getElem? (i := 15) rfl) rfl
set_option maxRecDepth 20000 in
theorem T_496 : (Jvm.Cond.selects "RecordCalls$Reader" ({ cls := "RecordCalls$Reader", name := "begin", desc := "(LRecordCalls$Row;I)V" } : Jvm.MethodName) ({ cls := "RecordCalls$Reader", name := "begin", desc := "(LRecordCalls$Row;I)V" } : Jvm.MethodName)) ∈ rc_tb := rc_tm3 (List.mem_of_getElem? (i := 16) rfl) rfl
set_option maxRecDepth 20000 in
theorem T_497 : (Jvm.Cond.code ({ cls := "RecordCalls$Reader", name := "begin", desc := "(LRecordCalls$Row;I)V" } : Jvm.MethodName) prog_4_method_2_code (3 : Nat) (Option.none : Option Jvm.ClassFile.FieldType)) ∈ rc_tb := rc_tm3 (List.mem_of_getElem? (i := 17) rfl) rfl
set_option maxRecDepth 20000 in
theorem T_498 : (Jvm.Cond.methodLink "RecordCalls$Server" (102 : Nat) ({ cls := "RecordCalls$Reader", name := "nextWord", desc := "()I" } : Jvm.MethodName)) ∈ rc_tb := rc_tm3 (List.mem_of_getElem? (i := 18) rfl) rfl
set_option maxRecDepth 20000 in
theorem T_499 : (Jvm.Cond.instanceMethod ({ cls := "RecordCalls$Reader", name := "nextWord", desc := "()I" } : Jvm.MethodName)) ∈ rc_tb := rc_tm3 (List.mem_of_getElem? (i := 19) rfl) rfl
set_option maxRecDepth 20000 in
theorem T_500 : (Jvm.Cond.selects "RecordCalls$Reader" ({ cls := "RecordCalls$Reader", name := "nextWord", desc := "()I" } : Jvm.MethodName) ({ cls := "RecordCalls$Reader", name := "nextWord", desc := "()I" } : Jvm.MethodName)) ∈ rc_tb := rc_tm3 (List.mem_of_getElem? (i := 20) rfl) rfl
set_option maxRecDepth 20000 in
theorem T_501 : (Jvm.Cond.code ({ cls := "RecordCalls$Reader", name := "nextWord", desc := "()I" } : Jvm.MethodName) prog_4_method_7_code (1 : Nat) (Option.some Jvm.ClassFile.FieldType.int)) ∈ rc_tb := rc_tm3 (List.mem_of_getElem? (i := 21) rfl) rfl
set_option maxRecDepth 20000 in
theorem T_502 : (Jvm.Cond.methodLink "RecordCalls$Reader" (26 : Nat) ({ cls := "RecordCalls$Row", name := "size", desc := "()I" } : Jvm.MethodName)) ∈ rc_tb := rc_tm3 (List.mem_of_getElem? (i := 22) rfl) rfl
set_option maxRecDepth 20000 in
theorem T_503 : (Jvm.Cond.methodLink "RecordCalls$Reader" (30 : Nat) ({ cls := "RecordCalls$Row", name := "wordAt", desc := "(I)I" } : Jvm.MethodName)) ∈ rc_tb := rc_tm3 (List.mem_of_getElem? (i := 23) rfl) rfl
set_option maxRecDepth 20000 in
theorem T_504 : (Jvm.Cond.methodLink "RecordCalls$Server" (105 : Nat) ({ cls := "RecordCalls$Reader", name := "nextBytes", desc := "(I)I" } : Jvm.MethodName)) ∈ rc_tb := rc_tm3 (List.mem_of_getElem? (i := 24) rfl) rfl
set_option maxRecDepth 20000 in
theorem T_505 : (Jvm.Cond.instanceMethod ({ cls := "RecordCalls$Reader", name := "nextBytes", desc := "(I)I" } : Jvm.MethodName)) ∈ rc_tb := rc_tm3 (List.mem_of_getElem? (i := 25) rfl) rfl
set_option maxRecDepth 20000 in
theorem T_506 : (Jvm.Cond.selects "RecordCalls$Reader" ({ cls := "RecordCalls$Reader", name := "nextBytes", desc := "(I)I" } : Jvm.MethodName) ({ cls := "RecordCalls$Reader", name := "nextBytes", desc := "(I)I" } : Jvm.MethodName)) ∈ rc_tb := rc_tm3 (List.mem_of_getElem? (i := 26) rfl) rfl
set_option maxRecDepth 20000 in
theorem T_507 : (Jvm.Cond.code ({ cls := "RecordCalls$Reader", name := "nextBytes", desc := "(I)I" } : Jvm.MethodName) prog_4_method_9_code (4 : Nat) (Option.some Jvm.ClassFile.FieldType.int)) ∈ rc_tb := rc_tm3 (List.mem_of_getElem? (i := 27) rfl) rfl
set_option maxRecDepth 20000 in
theorem T_508 : (Jvm.Cond.methodLink "RecordCalls$Reader" (34 : Nat) ({ cls := "RecordCalls$Reader", name := "nextWord", desc := "()I" } : Jvm.MethodName)) ∈ rc_tb := rc_tm3 (List.mem_of_getElem? (i := 28) rfl) rfl
set_option maxRecDepth 20000 in
theorem T_509 : (Jvm.Cond.methodLinkNest "RecordCalls$Reader" (39 : Nat) ({ cls := "RecordCalls", name := "filled", desc := "(I)I" } : Jvm.MethodName) "RecordCalls") ∈ rc_tb := rc_tm3 (List.mem_of_getElem? (i := 29) rfl) rfl
set_option maxRecDepth 20000 in
theorem T_510 : (Jvm.Cond.methodLink "RecordCalls$Reader" (42 : Nat) ({ cls := "RecordCalls$Row", name := "at", desc := "(I)I" } : Jvm.MethodName)) ∈ rc_tb := rc_tm3 (List.mem_of_getElem? (i := 30) rfl) rfl
set_option maxRecDepth 20000 in
theorem T_511 : (Jvm.Cond.methodLink "RecordCalls$Server" (108 : Nat) ({ cls := "RecordCalls$Reader", name := "isGood", desc := "()Z" } : Jvm.MethodName)) ∈ rc_tb := rc_tm3 (List.mem_of_getElem? (i := 31) rfl) rfl
set_option maxRecDepth 20000 in
theorem T_512 : (Jvm.Cond.instanceMethod ({ cls := "RecordCalls$Reader", name := "isGood", desc := "()Z" } : Jvm.MethodName)) ∈ rc_tb := rc_tm3 (List.mem_of_getElem? (i := 32) rfl) rfl
set_option maxRecDepth 20000 in
theorem T_513 : (Jvm.Cond.selects "RecordCalls$Reader" ({ cls := "RecordCalls$Reader", name := "isGood", desc := "()Z" } : Jvm.MethodName) ({ cls := "RecordCalls$Reader", name := "isGood", desc := "()Z" } : Jvm.MethodName)) ∈ rc_tb := rc_tm3 (List.mem_of_getElem? (i := 33) rfl) rfl
set_option maxRecDepth 20000 in
theorem T_514 : (Jvm.Cond.code ({ cls := "RecordCalls$Reader", name := "isGood", desc := "()Z" } : Jvm.MethodName) prog_4_method_4_code (1 : Nat) (Option.some Jvm.ClassFile.FieldType.boolean)) ∈ rc_tb := rc_tm3 (List.mem_of_getElem? (i := 34) rfl) rfl
set_option maxRecDepth 20000 in
theorem T_515 : (Jvm.Cond.constant "RecordCalls$Server" (111 : Nat) (400100 : Int32)) ∈ rc_tb := rc_tm3 (List.mem_of_getElem? (i := 35) rfl) rfl
set_option maxRecDepth 20000 in
theorem T_516 : (Jvm.Cond.methodLink "RecordCalls$Server" (112 : Nat) ({ cls := "RecordCalls$Server", name := "verdictOnVersion", desc := "(I)I" } : Jvm.MethodName)) ∈ rc_tb := rc_tm3 (List.mem_of_getElem? (i := 36) rfl) rfl
set_option maxRecDepth 20000 in
theorem T_517 : (Jvm.Cond.privateMethod ({ cls := "RecordCalls$Server", name := "verdictOnVersion", desc := "(I)I" } : Jvm.MethodName)) ∈ rc_tb := rc_tm3 (List.mem_of_getElem? (i := 37) rfl) rfl
set_option maxRecDepth 20000 in
theorem T_518 : (Jvm.Cond.instanceMethod ({ cls := "RecordCalls$Server", name := "verdictOnVersion", desc := "(I)I" } : Jvm.MethodName)) ∈ rc_tb := rc_tm3 (List.mem_of_getElem? (i := 38) rfl) rfl
set_option maxRecDepth 20000 in
theorem T_519 : (Jvm.Cond.code ({ cls := "RecordCalls$Server", name := "verdictOnVersion", desc := "(I)I" } : Jvm.MethodName) prog_7_method_4_code (3 : Nat) (Option.some Jvm.ClassFile.FieldType.int)) ∈ rc_tb := rc_tm3 (List.mem_of_getElem? (i := 39) rfl) rfl
set_option maxRecDepth 20000 in
theorem T_520 : (Jvm.Cond.methodLink "RecordCalls$Server" (83 : Nat) ({ cls := "RecordCalls$Server", name := "isTaken", desc := "()Z" } : Jvm.MethodName)) ∈ rc_tb := rc_tm3 (List.mem_of_getElem? (i := 40) rfl) rfl
set_option maxRecDepth 20000 in
theorem T_521 : (Jvm.Cond.privateMethod ({ cls := "RecordCalls$Server", name := "isTaken", desc := "()Z" } : Jvm.MethodName)) ∈ rc_tb := rc_tm3 (List.mem_of_getElem? (i := 41) rfl) rfl
set_option maxRecDepth 20000 in
theorem T_522 : (Jvm.Cond.instanceMethod ({ cls := "RecordCalls$Server", name := "isTaken", desc := "()Z" } : Jvm.MethodName)) ∈ rc_tb := rc_tm3 (List.mem_of_getElem? (i := 42) rfl) rfl
set_option maxRecDepth 20000 in
theorem T_523 : (Jvm.Cond.code ({ cls := "RecordCalls$Server", name := "isTaken", desc := "()Z" } : Jvm.MethodName) prog_7_method_6_code (1 : Nat) (Option.some Jvm.ClassFile.FieldType.boolean)) ∈ rc_tb := rc_tm3 (List.mem_of_getElem? (i := 43) rfl) rfl
set_option maxRecDepth 20000 in
theorem T_524 : (Jvm.Cond.methodLink "RecordCalls$Server" (126 : Nat) ({ cls := "RecordCalls$Server", name := "takeKey", desc := "()V" } : Jvm.MethodName)) ∈ rc_tb := rc_tm3 (List.mem_of_getElem? (i := 44) rfl) rfl
set_option maxRecDepth 20000 in
theorem T_525 : (Jvm.Cond.privateMethod ({ cls := "RecordCalls$Server", name := "takeKey", desc := "()V" } : Jvm.MethodName)) ∈ rc_tb := rc_tm3 (List.mem_of_getElem? (i := 45) rfl) rfl
set_option maxRecDepth 20000 in
theorem T_526 : (Jvm.Cond.instanceMethod ({ cls := "RecordCalls$Server", name := "takeKey", desc := "()V" } : Jvm.MethodName)) ∈ rc_tb := rc_tm3 (List.mem_of_getElem? (i := 46) rfl) rfl
set_option maxRecDepth 20000 in
theorem T_527 : (Jvm.Cond.code ({ cls := "RecordCalls$Server", name := "takeKey", desc := "()V" } : Jvm.MethodName) prog_7_method_7_code (2 : Nat) (Option.none : Option Jvm.ClassFile.FieldType)) ∈ rc_tb := rc_tm3 (List.mem_of_getElem? (i := 47) rfl) rfl
set_option maxRecDepth 20000 in
theorem T_528 : (Jvm.Cond.methodLink "RecordCalls$Server" (139 : Nat) ({ cls := "RecordCalls$Reader", name := "fail", desc := "()V" } : Jvm.MethodName)) ∈ rc_tb := rc_tm3 (List.mem_of_getElem? (i := 48) rfl) rfl
set_option maxRecDepth 20000 in
theorem T_529 : (Jvm.Cond.instanceMethod ({ cls := "RecordCalls$Reader", name := "fail", desc := "()V" } : Jvm.MethodName)) ∈ rc_tb := rc_tm3 (List.mem_of_getElem? (i := 49) rfl) rfl
set_option maxRecDepth 20000 in
theorem T_530 : (Jvm.Cond.selects "RecordCalls$Reader" ({ cls := "RecordCalls$Reader", name := "fail", desc := "()V" } : Jvm.MethodName) ({ cls := "RecordCalls$Reader", name := "fail", desc := "()V" } : Jvm.MethodName)) ∈ rc_tb := rc_tm3 (List.mem_of_getElem? (i := 50) rfl) rfl
set_option maxRecDepth 20000 in
theorem T_531 : (Jvm.Cond.code ({ cls := "RecordCalls$Reader", name := "fail", desc := "()V" } : Jvm.MethodName) prog_4_method_6_code (1 : Nat) (Option.none : Option Jvm.ClassFile.FieldType)) ∈ rc_tb := rc_tm3 (List.mem_of_getElem? (i := 51) rfl) rfl
set_option maxRecDepth 20000 in
theorem T_532 : (Jvm.Cond.methodLink "RecordCalls$Server" (142 : Nat) ({ cls := "RecordCalls$Reader", name := "startOfBytes", desc := "(I)I" } : Jvm.MethodName)) ∈ rc_tb := rc_tm3 (List.mem_of_getElem? (i := 52) rfl) rfl
set_option maxRecDepth 20000 in
theorem T_533 : (Jvm.Cond.instanceMethod ({ cls := "RecordCalls$Reader", name := "startOfBytes", desc := "(I)I" } : Jvm.MethodName)) ∈ rc_tb := rc_tm3 (List.mem_of_getElem? (i := 53) rfl) rfl
set_option maxRecDepth 20000 in
theorem T_534 : (Jvm.Cond.selects "RecordCalls$Reader" ({ cls := "RecordCalls$Reader", name := "startOfBytes", desc := "(I)I" } : Jvm.MethodName) ({ cls := "RecordCalls$Reader", name := "startOfBytes", desc := "(I)I" } : Jvm.MethodName)) ∈ rc_tb := rc_tm3 (List.mem_of_getElem? (i := 54) rfl) rfl
set_option maxRecDepth 20000 in
theorem T_535 : (Jvm.Cond.code ({ cls := "RecordCalls$Reader", name := "startOfBytes", desc := "(I)I" } : Jvm.MethodName) prog_4_method_10_code (2 : Nat) (Option.some Jvm.ClassFile.FieldType.int)) ∈ rc_tb := rc_tm3 (List.mem_of_getElem? (i := 55) rfl) rfl
set_option maxRecDepth 20000 in
theorem T_536 : (Jvm.Cond.methodLink "RecordCalls$Server" (129 : Nat) ({ cls := "RecordCalls$Reader", name := "nextLong", desc := "()J" } : Jvm.MethodName)) ∈ rc_tb := rc_tm3 (List.mem_of_getElem? (i := 56) rfl) rfl
set_option maxRecDepth 20000 in
theorem T_537 : (Jvm.Cond.instanceMethod ({ cls := "RecordCalls$Reader", name := "nextLong", desc := "()J" } : Jvm.MethodName)) ∈ rc_tb := rc_tm3 (List.mem_of_getElem? (i := 57) rfl) rfl
set_option maxRecDepth 20000 in
theorem T_538 : (Jvm.Cond.selects "RecordCalls$Reader" ({ cls := "RecordCalls$Reader", name := "nextLong", desc := "()J" } : Jvm.MethodName) ({ cls := "RecordCalls$Reader", name := "nextLong", desc := "()J" } : Jvm.MethodName)) ∈ rc_tb := rc_tm3 (List.mem_of_getElem? (i := 58) rfl) rfl
set_option maxRecDepth 20000 in
theorem T_539 : (Jvm.Cond.code ({ cls := "RecordCalls$Reader", name := "nextLong", desc := "()J" } : Jvm.MethodName) prog_4_method_8_code (5 : Nat) (Option.some Jvm.ClassFile.FieldType.long)) ∈ rc_tb := rc_tm3 (List.mem_of_getElem? (i := 59) rfl) rfl
set_option maxRecDepth 20000 in
theorem T_540 : (Jvm.Cond.constantLong "RecordCalls$Reader" (37 : Nat) (4294967295 : Int64)) ∈ rc_tb := rc_tm3 (List.mem_of_getElem? (i := 60) rfl) rfl
set_option maxRecDepth 20000 in
theorem T_541 : (Jvm.Cond.methodLink "RecordCalls$Server" (133 : Nat) ({ cls := "RecordCalls$Server", name := "takeKeys", desc := "()V" } : Jvm.MethodName)) ∈ rc_tb := rc_tm3 (List.mem_of_getElem? (i := 61) rfl) rfl
set_option maxRecDepth 20000 in
theorem T_542 : (Jvm.Cond.privateMethod ({ cls := "RecordCalls$Server", name := "takeKeys", desc := "()V" } : Jvm.MethodName)) ∈ rc_tb := rc_tm3 (List.mem_of_getElem? (i := 62) rfl) rfl
set_option maxRecDepth 20000 in
theorem T_543 : (Jvm.Cond.instanceMethod ({ cls := "RecordCalls$Server", name := "takeKeys", desc := "()V" } : Jvm.MethodName)) ∈ rc_tb := rc_tm3 (List.mem_of_getElem? (i := 63) rfl) rfl
set_option maxRecDepth 20000 in
theorem T_544 : (Jvm.Cond.code ({ cls := "RecordCalls$Server", name := "takeKeys", desc := "()V" } : Jvm.MethodName) prog_7_method_8_code (3 : Nat) (Option.none : Option Jvm.ClassFile.FieldType)) ∈ rc_tb := rc_tm3 (List.mem_of_getElem? (i := 64) rfl) rfl
set_option maxRecDepth 20000 in
theorem T_545 : (Jvm.Cond.methodLink "RecordCalls$Server" (136 : Nat) ({ cls := "RecordCalls$Reader", name := "isAtEnd", desc := "()Z" } : Jvm.MethodName)) ∈ rc_tb := rc_tm3 (List.mem_of_getElem? (i := 65) rfl) rfl
set_option maxRecDepth 20000 in
theorem T_546 : (Jvm.Cond.instanceMethod ({ cls := "RecordCalls$Reader", name := "isAtEnd", desc := "()Z" } : Jvm.MethodName)) ∈ rc_tb := rc_tm3 (List.mem_of_getElem? (i := 66) rfl) rfl
set_option maxRecDepth 20000 in
theorem T_547 : (Jvm.Cond.selects "RecordCalls$Reader" ({ cls := "RecordCalls$Reader", name := "isAtEnd", desc := "()Z" } : Jvm.MethodName) ({ cls := "RecordCalls$Reader", name := "isAtEnd", desc := "()Z" } : Jvm.MethodName)) ∈ rc_tb := rc_tm3 (List.mem_of_getElem? (i := 67) rfl) rfl
set_option maxRecDepth 20000 in
theorem T_548 : (Jvm.Cond.code ({ cls := "RecordCalls$Reader", name := "isAtEnd", desc := "()Z" } : Jvm.MethodName) prog_4_method_5_code (1 : Nat) (Option.some Jvm.ClassFile.FieldType.boolean)) ∈ rc_tb := rc_tm3 (List.mem_of_getElem? (i := 68) rfl) rfl
set_option maxRecDepth 20000 in
theorem T_549 : (Jvm.Cond.methodLink "RecordCalls$Server" (87 : Nat) ({ cls := "RecordCalls$Server", name := "beginReply", desc := "(II)V" } : Jvm.MethodName)) ∈ rc_tb := rc_tm3 (List.mem_of_getElem? (i := 69) rfl) rfl
set_option maxRecDepth 20000 in
theorem T_550 : (Jvm.Cond.privateMethod ({ cls := "RecordCalls$Server", name := "beginReply", desc := "(II)V" } : Jvm.MethodName)) ∈ rc_tb := rc_tm3 (List.mem_of_getElem? (i := 70) rfl) rfl
set_option maxRecDepth 20000 in
theorem T_551 : (Jvm.Cond.instanceMethod ({ cls := "RecordCalls$Server", name := "beginReply", desc := "(II)V" } : Jvm.MethodName)) ∈ rc_tb := rc_tm3 (List.mem_of_getElem? (i := 71) rfl) rfl
set_option maxRecDepth 20000 in
theorem T_552 : (Jvm.Cond.code ({ cls := "RecordCalls$Server", name := "beginReply", desc := "(II)V" } : Jvm.MethodName) prog_7_method_5_code (3 : Nat) (Option.none : Option Jvm.ClassFile.FieldType)) ∈ rc_tb := rc_tm3 (List.mem_of_getElem? (i := 72) rfl) rfl
set_option maxRecDepth 20000 in
theorem T_553 : (Jvm.Cond.methodLink "RecordCalls$Server" (115 : Nat) ({ cls := "RecordCalls$Row", name := "clear", desc := "()V" } : Jvm.MethodName)) ∈ rc_tb := rc_tm3 (List.mem_of_getElem? (i := 73) rfl) rfl
set_option maxRecDepth 20000 in
theorem T_554 : (Jvm.Cond.methodLink "RecordCalls$Server" (118 : Nat) ({ cls := "RecordCalls$Row", name := "addWord", desc := "(I)V" } : Jvm.MethodName)) ∈ rc_tb := rc_tm3 (List.mem_of_getElem? (i := 74) rfl) rfl
set_option maxRecDepth 20000 in
theorem T_555 : (Jvm.Cond.methodLinkNest "RecordCalls$Server" (122 : Nat) ({ cls := "RecordCalls", name := "addNobody", desc := "(LRecordCalls$Row;)V" } : Jvm.MethodName) "RecordCalls") ∈ rc_tb := rc_tm3 (List.mem_of_getElem? (i := 75) rfl) rfl
set_option maxRecDepth 20000 in
theorem T_556 : (Jvm.Cond.methodLink "RecordCalls$Server" (91 : Nat) ({ cls := "RecordCalls$Server", name := "give", desc := "()V" } : Jvm.MethodName)) ∈ rc_tb := rc_tm3 (List.mem_of_getElem? (i := 76) rfl) rfl
set_option maxRecDepth 20000 in
theorem T_557 : (Jvm.Cond.privateMethod ({ cls := "RecordCalls$Server", name := "give", desc := "()V" } : Jvm.MethodName)) ∈ rc_tb := rc_tm3 (List.mem_of_getElem? (i := 77) rfl) rfl
set_option maxRecDepth 20000 in
theorem T_558 : (Jvm.Cond.instanceMethod ({ cls := "RecordCalls$Server", name := "give", desc := "()V" } : Jvm.MethodName)) ∈ rc_tb := rc_tm3 (List.mem_of_getElem? (i := 78) rfl) rfl
set_option maxRecDepth 20000 in
theorem T_559 : (Jvm.Cond.code ({ cls := "RecordCalls$Server", name := "give", desc := "()V" } : Jvm.MethodName) prog_7_method_9_code (1 : Nat) (Option.none : Option Jvm.ClassFile.FieldType)) ∈ rc_tb := rc_tm3 (List.mem_of_getElem? (i := 79) rfl) rfl
set_option maxRecDepth 20000 in
theorem T_560 : (Jvm.Cond.methodLink "RecordCalls$Server" (145 : Nat) ({ cls := "RecordCalls$Server", name := "giveSet", desc := "()V" } : Jvm.MethodName)) ∈ rc_tb := rc_tm3 (List.mem_of_getElem? (i := 80) rfl) rfl
set_option maxRecDepth 20000 in
theorem T_561 : (Jvm.Cond.privateMethod ({ cls := "RecordCalls$Server", name := "giveSet", desc := "()V" } : Jvm.MethodName)) ∈ rc_tb := rc_tm3 (List.mem_of_getElem? (i := 81) rfl) rfl
set_option maxRecDepth 20000 in
theorem T_562 : (Jvm.Cond.instanceMethod ({ cls := "RecordCalls$Server", name := "giveSet", desc := "()V" } : Jvm.MethodName)) ∈ rc_tb := rc_tm3 (List.mem_of_getElem? (i := 82) rfl) rfl
set_option maxRecDepth 20000 in
theorem T_563 : (Jvm.Cond.code ({ cls := "RecordCalls$Server", name := "giveSet", desc := "()V" } : Jvm.MethodName) prog_7_method_11_code (3 : Nat) (Option.none : Option Jvm.ClassFile.FieldType)) ∈ rc_tb := rc_tm3 (List.mem_of_getElem? (i := 83) rfl) rfl
set_option maxRecDepth 20000 in
theorem T_564 : (Jvm.Cond.methodLink "RecordCalls$Server" (148 : Nat) ({ cls := "RecordCalls$Server", name := "placeTaken", desc := "(I)I" } : Jvm.MethodName)) ∈ rc_tb := rc_tm3 (List.mem_of_getElem? (i := 84) rfl) rfl
set_option maxRecDepth 20000 in
theorem T_565 : (Jvm.Cond.privateMethod ({ cls := "RecordCalls$Server", name := "placeTaken", desc := "(I)I" } : Jvm.MethodName)) ∈ rc_tb := rc_tm3 (List.mem_of_getElem? (i := 85) rfl) rfl
set_option maxRecDepth 20000 in
theorem T_566 : (Jvm.Cond.instanceMethod ({ cls := "RecordCalls$Server", name := "placeTaken", desc := "(I)I" } : Jvm.MethodName)) ∈ rc_tb := rc_tm3 (List.mem_of_getElem? (i := 86) rfl) rfl
set_option maxRecDepth 20000 in
theorem T_567 : (Jvm.Cond.code ({ cls := "RecordCalls$Server", name := "placeTaken", desc := "(I)I" } : Jvm.MethodName) prog_7_method_10_code (2 : Nat) (Option.some Jvm.ClassFile.FieldType.int)) ∈ rc_tb := rc_tm3 (List.mem_of_getElem? (i := 87) rfl) rfl
set_option maxRecDepth 20000 in
theorem T_568 : (Jvm.Cond.methodLink "RecordCalls$Server" (167 : Nat) ({ cls := "RecordCalls$Reader", name := "row", desc := "()LRecordCalls$Row;" } : Jvm.MethodName)) ∈ rc_tb := rc_tm3 (List.mem_of_getElem? (i := 88) rfl) rfl
set_option maxRecDepth 20000 in
theorem T_569 : (Jvm.Cond.instanceMethod ({ cls := "RecordCalls$Reader", name := "row", desc := "()LRecordCalls$Row;" } : Jvm.MethodName)) ∈ rc_tb := rc_tm3 (List.mem_of_getElem? (i := 89) rfl) rfl
set_option maxRecDepth 20000 in
theorem T_570 : (Jvm.Cond.selects "RecordCalls$Reader" ({ cls := "RecordCalls$Reader", name := "row", desc := "()LRecordCalls$Row;" } : Jvm.MethodName) ({ cls := "RecordCalls$Reader", name := "row", desc := "()LRecordCalls$Row;" } : Jvm.MethodName)) ∈ rc_tb := rc_tm3 (List.mem_of_getElem? (i := 90) rfl) rfl
set_option maxRecDepth 20000 in
theorem T_571 : (Jvm.Cond.code ({ cls := "RecordCalls$Reader", name := "row", desc := "()LRecordCalls$Row;" } : Jvm.MethodName) prog_4_method_3_code (1 : Nat) (Option.some (Jvm.ClassFile.FieldType.object "RecordCalls$Row"))) ∈ rc_tb := rc_tm3 (List.mem_of_getElem? (i := 91) rfl) rfl
set_option maxRecDepth 20000 in
theorem T_572 : (Jvm.Cond.methodLink "RecordCalls$Server" (171 : Nat) ({ cls := "RecordCalls$KeyMap", name := "placeOf", desc := "(LRecordCalls$Row;II)I" } : Jvm.MethodName)) ∈ rc_tb := rc_tm3 (List.mem_of_getElem? (i := 92) rfl) rfl
set_option maxRecDepth 20000 in
theorem T_573 : (Jvm.Cond.methodLink "RecordCalls$Server" (175 : Nat) ({ cls := "RecordCalls$KeyMap", name := "isFull", desc := "()Z" } : Jvm.MethodName)) ∈ rc_tb := rc_tm3 (List.mem_of_getElem? (i := 93) rfl) rfl
set_option maxRecDepth 20000 in
theorem T_574 : (Jvm.Cond.instanceMethod ({ cls := "RecordCalls$KeyMap", name := "isFull", desc := "()Z" } : Jvm.MethodName)) ∈ rc_tb := rc_tm3 (List.mem_of_getElem? (i := 94) rfl) rfl
set_option maxRecDepth 20000 in
theorem T_575 : (Jvm.Cond.selects "RecordCalls$KeyMap" ({ cls := "RecordCalls$KeyMap", name := "isFull", desc := "()Z" } : Jvm.MethodName) ({ cls := "RecordCalls$KeyMap", name := "isFull", desc := "()Z" } : Jvm.MethodName)) ∈ rc_tb := rc_tm3 (List.mem_of_getElem? (i := 95) rfl) rfl
set_option maxRecDepth 20000 in
theorem T_576 : (Jvm.Cond.code ({ cls := "RecordCalls$KeyMap", name := "isFull", desc := "()Z" } : Jvm.MethodName) prog_3_method_3_code (1 : Nat) (Option.some Jvm.ClassFile.FieldType.boolean)) ∈ rc_tb := rc_tm3 (List.mem_of_getElem? (i := 96) rfl) rfl
set_option maxRecDepth 20000 in
theorem T_577 : (Jvm.Cond.methodLink "RecordCalls$Server" (178 : Nat) ({ cls := "RecordCalls$Row", name := "addTruth", desc := "(Z)V" } : Jvm.MethodName)) ∈ rc_tb := rc_tm3 (List.mem_of_getElem? (i := 97) rfl) rfl
set_option maxRecDepth 20000 in
theorem T_578 : (Jvm.Cond.instanceMethod ({ cls := "RecordCalls$Row", name := "addTruth", desc := "(Z)V" } : Jvm.MethodName)) ∈ rc_tb := rc_tm3 (List.mem_of_getElem? (i := 98) rfl) rfl
set_option maxRecDepth 20000 in
theorem T_579 : (Jvm.Cond.selects "RecordCalls$Row" ({ cls := "RecordCalls$Row", name := "addTruth", desc := "(Z)V" } : Jvm.MethodName) ({ cls := "RecordCalls$Row", name := "addTruth", desc := "(Z)V" } : Jvm.MethodName)) ∈ rc_tb := rc_tm3 (List.mem_of_getElem? (i := 99) rfl) rfl
set_option maxRecDepth 20000 in
theorem T_580 : (Jvm.Cond.code ({ cls := "RecordCalls$Row", name := "addTruth", desc := "(Z)V" } : Jvm.MethodName) prog_6_method_11_code (2 : Nat) (Option.none : Option Jvm.ClassFile.FieldType)) ∈ rc_tb := rc_tm3 (List.mem_of_getElem? (i := 100) rfl) rfl
set_option maxRecDepth 20000 in
theorem T_581 : (Jvm.Cond.methodLink "RecordCalls$Server" (182 : Nat) ({ cls := "RecordCalls$KeyMap", name := "valueAt", desc := "(I)J" } : Jvm.MethodName)) ∈ rc_tb := rc_tm3 (List.mem_of_getElem? (i := 101) rfl) rfl
set_option maxRecDepth 20000 in
theorem T_582 : (Jvm.Cond.methodLink "RecordCalls$Server" (186 : Nat) ({ cls := "RecordCalls$Row", name := "addLong", desc := "(J)V" } : Jvm.MethodName)) ∈ rc_tb := rc_tm3 (List.mem_of_getElem? (i := 102) rfl) rfl
set_option maxRecDepth 20000 in
theorem T_583 : (Jvm.Cond.methodLink "RecordCalls$Server" (190 : Nat) ({ cls := "RecordCalls$KeyMap", name := "setValue", desc := "(IJ)V" } : Jvm.MethodName)) ∈ rc_tb := rc_tm3 (List.mem_of_getElem? (i := 103) rfl) rfl
set_option maxRecDepth 20000 in
theorem T_584 : (Jvm.Cond.instanceMethod ({ cls := "RecordCalls$KeyMap", name := "setValue", desc := "(IJ)V" } : Jvm.MethodName)) ∈ rc_tb := rc_tm3 (List.mem_of_getElem? (i := 104) rfl) rfl
set_option maxRecDepth 20000 in
theorem T_585 : (Jvm.Cond.selects "RecordCalls$KeyMap" ({ cls := "RecordCalls$KeyMap", name := "setValue", desc := "(IJ)V" } : Jvm.MethodName) ({ cls := "RecordCalls$KeyMap", name := "setValue", desc := "(IJ)V" } : Jvm.MethodName)) ∈ rc_tb := rc_tm3 (List.mem_of_getElem? (i := 105) rfl) rfl
set_option maxRecDepth 20000 in
theorem T_586 : (Jvm.Cond.code ({ cls := "RecordCalls$KeyMap", name := "setValue", desc := "(IJ)V" } : Jvm.MethodName) prog_3_method_7_code (4 : Nat) (Option.none : Option Jvm.ClassFile.FieldType)) ∈ rc_tb := rc_tm3 (List.mem_of_getElem? (i := 106) rfl) rfl
set_option maxRecDepth 20000 in
theorem T_587 : (Jvm.Cond.methodLink "RecordCalls$Server" (193 : Nat) ({ cls := "RecordCalls$KeyMap", name := "addNew", desc := "(LRecordCalls$Row;IIJ)V" } : Jvm.MethodName)) ∈ rc_tb := rc_tm3 (List.mem_of_getElem? (i := 107) rfl) rfl
set_option maxRecDepth 20000 in
theorem T_588 : (Jvm.Cond.instanceMethod ({ cls := "RecordCalls$KeyMap", name := "addNew", desc := "(LRecordCalls$Row;IIJ)V" } : Jvm.MethodName)) ∈ rc_tb := rc_tm3 (List.mem_of_getElem? (i := 108) rfl) rfl
set_option maxRecDepth 20000 in
theorem T_589 : (Jvm.Cond.selects "RecordCalls$KeyMap" ({ cls := "RecordCalls$KeyMap", name := "addNew", desc := "(LRecordCalls$Row;IIJ)V" } : Jvm.MethodName) ({ cls := "RecordCalls$KeyMap", name := "addNew", desc := "(LRecordCalls$Row;IIJ)V" } : Jvm.MethodName)) ∈ rc_tb := rc_tm3 (List.mem_of_getElem? (i := 109) rfl) rfl
set_option maxRecDepth 20000 in
theorem T_590 : (Jvm.Cond.code ({ cls := "RecordCalls$KeyMap", name := "addNew", desc := "(LRecordCalls$Row;IIJ)V" } : Jvm.MethodName) prog_3_method_9_code (6 : Nat) (Option.none : Option Jvm.ClassFile.FieldType)) ∈ rc_tb := rc_tm3 (List.mem_of_getElem? (i := 110) rfl) rfl
set_option maxRecDepth 20000 in
theorem T_591 : (Jvm.Cond.methodLink "RecordCalls$KeyMap" (34 : Nat) ({ cls := "RecordCalls$KeyMap", name := "isFull", desc := "()Z" } : Jvm.MethodName)) ∈ rc_tb := rc_tm3 (List.mem_of_getElem? (i := 111) rfl) rfl
set_option maxRecDepth 20000 in
theorem T_592 : (Jvm.Cond.methodLink "RecordCalls$KeyMap" (38 : Nat) ({ cls := "RecordCalls$Row", name := "clear", desc := "()V" } : Jvm.MethodName)) ∈ rc_tb := rc_tm3 (List.mem_of_getElem? (i := 112) rfl) rfl
set_option maxRecDepth 20000 in
theorem T_593 : (Jvm.Cond.methodLink "RecordCalls$KeyMap" (41 : Nat) ({ cls := "RecordCalls$Row", name := "addPart", desc := "(LRecordCalls$Row;II)V" } : Jvm.MethodName)) ∈ rc_tb := rc_tm3 (List.mem_of_getElem? (i := 113) rfl) rfl
set_option maxRecDepth 20000 in
theorem T_594 : (Jvm.Cond.methodLink "RecordCalls$Server" (151 : Nat) ({ cls := "RecordCalls$Server", name := "giveValueAt", desc := "(I)V" } : Jvm.MethodName)) ∈ rc_tb := rc_tm3 (List.mem_of_getElem? (i := 114) rfl) rfl
set_option maxRecDepth 20000 in
theorem T_595 : (Jvm.Cond.privateMethod ({ cls := "RecordCalls$Server", name := "giveValueAt", desc := "(I)V" } : Jvm.MethodName)) ∈ rc_tb := rc_tm3 (List.mem_of_getElem? (i := 115) rfl) rfl
set_option maxRecDepth 20000 in
theorem T_596 : (Jvm.Cond.instanceMethod ({ cls := "RecordCalls$Server", name := "giveValueAt", desc := "(I)V" } : Jvm.MethodName)) ∈ rc_tb := rc_tm3 (List.mem_of_getElem? (i := 116) rfl) rfl
set_option maxRecDepth 20000 in
theorem T_597 : (Jvm.Cond.code ({ cls := "RecordCalls$Server", name := "giveValueAt", desc := "(I)V" } : Jvm.MethodName) prog_7_method_12_code (2 : Nat) (Option.none : Option Jvm.ClassFile.FieldType)) ∈ rc_tb := rc_tm3 (List.mem_of_getElem? (i := 117) rfl) rfl
set_option maxRecDepth 20000 in
theorem T_598 : (Jvm.Cond.methodLink "RecordCalls$Server" (154 : Nat) ({ cls := "RecordCalls$KeyMap", name := "addToValue", desc := "(IJ)V" } : Jvm.MethodName)) ∈ rc_tb := rc_tm3 (List.mem_of_getElem? (i := 118) rfl) rfl
set_option maxRecDepth 20000 in
theorem T_599 : (Jvm.Cond.instanceMethod ({ cls := "RecordCalls$KeyMap", name := "addToValue", desc := "(IJ)V" } : Jvm.MethodName)) ∈ rc_tb := rc_tm3 (List.mem_of_getElem? (i := 119) rfl) rfl
set_option maxRecDepth 20000 in
theorem T_600 : (Jvm.Cond.selects "RecordCalls$KeyMap" ({ cls := "RecordCalls$KeyMap", name := "addToValue", desc := "(IJ)V" } : Jvm.MethodName) ({ cls := "RecordCalls$KeyMap", name := "addToValue", desc := "(IJ)V" } : Jvm.MethodName)) ∈ rc_tb := rc_tm3 (List.mem_of_getElem? (i := 120) rfl) rfl
set_option maxRecDepth 20000 in
theorem T_601 : (Jvm.Cond.code ({ cls := "RecordCalls$KeyMap", name := "addToValue", desc := "(IJ)V" } : Jvm.MethodName) prog_3_method_8_code (4 : Nat) (Option.none : Option Jvm.ClassFile.FieldType)) ∈ rc_tb := rc_tm3 (List.mem_of_getElem? (i := 121) rfl) rfl
set_option maxRecDepth 20000 in
theorem T_602 : (Jvm.Cond.methodLink "RecordCalls$Server" (158 : Nat) ({ cls := "RecordCalls$Server", name := "giveSum", desc := "()V" } : Jvm.MethodName)) ∈ rc_tb := rc_tm3 (List.mem_of_getElem? (i := 122) rfl) rfl
set_option maxRecDepth 20000 in
theorem T_603 : (Jvm.Cond.privateMethod ({ cls := "RecordCalls$Server", name := "giveSum", desc := "()V" } : Jvm.MethodName)) ∈ rc_tb := rc_tm3 (List.mem_of_getElem? (i := 123) rfl) rfl
set_option maxRecDepth 20000 in
theorem T_604 : (Jvm.Cond.instanceMethod ({ cls := "RecordCalls$Server", name := "giveSum", desc := "()V" } : Jvm.MethodName)) ∈ rc_tb := rc_tm3 (List.mem_of_getElem? (i := 124) rfl) rfl
set_option maxRecDepth 20000 in
theorem T_605 : (Jvm.Cond.code ({ cls := "RecordCalls$Server", name := "giveSum", desc := "()V" } : Jvm.MethodName) prog_7_method_13_code (6 : Nat) (Option.none : Option Jvm.ClassFile.FieldType)) ∈ rc_tb := rc_tm3 (List.mem_of_getElem? (i := 125) rfl) rfl
set_option maxRecDepth 20000 in
theorem T_606 : (Jvm.Cond.methodLink "RecordCalls$Server" (161 : Nat) ({ cls := "RecordCalls$Server", name := "giveList", desc := "()V" } : Jvm.MethodName)) ∈ rc_tb := rc_tm3 (List.mem_of_getElem? (i := 126) rfl) rfl
set_option maxRecDepth 20000 in
theorem T_607 : (Jvm.Cond.privateMethod ({ cls := "RecordCalls$Server", name := "giveList", desc := "()V" } : Jvm.MethodName)) ∈ rc_tb := rc_tm3 (List.mem_of_getElem? (i := 127) rfl) rfl
set_option maxRecDepth 20000 in
theorem T_608 : (Jvm.Cond.instanceMethod ({ cls := "RecordCalls$Server", name := "giveList", desc := "()V" } : Jvm.MethodName)) ∈ rc_tb := rc_tm3 (List.mem_of_getElem? (i := 128) rfl) rfl
set_option maxRecDepth 20000 in
theorem T_609 : (Jvm.Cond.code ({ cls := "RecordCalls$Server", name := "giveList", desc := "()V" } : Jvm.MethodName) prog_7_method_14_code (6 : Nat) (Option.none : Option Jvm.ClassFile.FieldType)) ∈ rc_tb := rc_tm3 (List.mem_of_getElem? (i := 129) rfl) rfl
set_option maxRecDepth 20000 in
theorem T_610 : (Jvm.Cond.methodLink "RecordCalls$Server" (197 : Nat) ({ cls := "RecordCalls$KeyMap", name := "size", desc := "()I" } : Jvm.MethodName)) ∈ rc_tb := rc_tm3 (List.mem_of_getElem? (i := 130) rfl) rfl
set_option maxRecDepth 20000 in
theorem T_611 : (Jvm.Cond.instanceMethod ({ cls := "RecordCalls$KeyMap", name := "size", desc := "()I" } : Jvm.MethodName)) ∈ rc_tb := rc_tm3 (List.mem_of_getElem? (i := 131) rfl) rfl
set_option maxRecDepth 20000 in
theorem T_612 : (Jvm.Cond.selects "RecordCalls$KeyMap" ({ cls := "RecordCalls$KeyMap", name := "size", desc := "()I" } : Jvm.MethodName) ({ cls := "RecordCalls$KeyMap", name := "size", desc := "()I" } : Jvm.MethodName)) ∈ rc_tb := rc_tm3 (List.mem_of_getElem? (i := 132) rfl) rfl
set_option maxRecDepth 20000 in
theorem T_613 : (Jvm.Cond.code ({ cls := "RecordCalls$KeyMap", name := "size", desc := "()I" } : Jvm.MethodName) prog_3_method_2_code (1 : Nat) (Option.some Jvm.ClassFile.FieldType.int)) ∈ rc_tb := rc_tm3 (List.mem_of_getElem? (i := 133) rfl) rfl
set_option maxRecDepth 20000 in
theorem T_614 : (Jvm.Cond.methodLink "RecordCalls$Server" (198 : Nat) ({ cls := "java/lang/Math", name := "max", desc := "(II)I" } : Jvm.MethodName)) ∈ rc_tb := rc_tm3 (List.mem_of_getElem? (i := 134) rfl) rfl
set_option maxRecDepth 20000 in
theorem T_615 : (Jvm.Cond.methodLink "RecordCalls$Server" (204 : Nat) ({ cls := "java/lang/Math", name := "min", desc := "(II)I" } : Jvm.MethodName)) ∈ rc_tb := rc_tm3 (List.mem_of_getElem? (i := 135) rfl) rfl
set_option maxRecDepth 20000 in
theorem T_616 : (Jvm.Cond.methodLink "RecordCalls$Server" (207 : Nat) ({ cls := "RecordCalls$KeyMap", name := "keyAt", desc := "(I)LRecordCalls$Row;" } : Jvm.MethodName)) ∈ rc_tb := rc_tm3 (List.mem_of_getElem? (i := 136) rfl) rfl
set_option maxRecDepth 20000 in
theorem T_617 : (Jvm.Cond.instanceMethod ({ cls := "RecordCalls$KeyMap", name := "keyAt", desc := "(I)LRecordCalls$Row;" } : Jvm.MethodName)) ∈ rc_tb := rc_tm3 (List.mem_of_getElem? (i := 137) rfl) rfl
set_option maxRecDepth 20000 in
theorem T_618 : (Jvm.Cond.selects "RecordCalls$KeyMap" ({ cls := "RecordCalls$KeyMap", name := "keyAt", desc := "(I)LRecordCalls$Row;" } : Jvm.MethodName) ({ cls := "RecordCalls$KeyMap", name := "keyAt", desc := "(I)LRecordCalls$Row;" } : Jvm.MethodName)) ∈ rc_tb := rc_tm3 (List.mem_of_getElem? (i := 138) rfl) rfl
set_option maxRecDepth 20000 in
theorem T_619 : (Jvm.Cond.code ({ cls := "RecordCalls$KeyMap", name := "keyAt", desc := "(I)LRecordCalls$Row;" } : Jvm.MethodName) prog_3_method_11_code (2 : Nat) (Option.some (Jvm.ClassFile.FieldType.object "RecordCalls$Row"))) ∈ rc_tb := rc_tm3 (List.mem_of_getElem? (i := 139) rfl) rfl
set_option maxRecDepth 20000 in
theorem T_620 : (Jvm.Cond.methodLink "RecordCalls$Server" (210 : Nat) ({ cls := "RecordCalls$Row", name := "addBytes", desc := "(LRecordCalls$Row;II)V" } : Jvm.MethodName)) ∈ rc_tb := rc_tm3 (List.mem_of_getElem? (i := 140) rfl) rfl
set_option maxRecDepth 20000 in
theorem T_621 : (Jvm.Cond.methodLink "RecordCalls$Server" (164 : Nat) ({ cls := "RecordCalls$Server", name := "giveRemoved", desc := "()V" } : Jvm.MethodName)) ∈ rc_tb := rc_tm3 (List.mem_of_getElem? (i := 141) rfl) rfl
set_option maxRecDepth 20000 in
theorem T_622 : (Jvm.Cond.privateMethod ({ cls := "RecordCalls$Server", name := "giveRemoved", desc := "()V" } : Jvm.MethodName)) ∈ rc_tb := rc_tm3 (List.mem_of_getElem? (i := 142) rfl) rfl
set_option maxRecDepth 20000 in
theorem T_623 : (Jvm.Cond.instanceMethod ({ cls := "RecordCalls$Server", name := "giveRemoved", desc := "()V" } : Jvm.MethodName)) ∈ rc_tb := rc_tm3 (List.mem_of_getElem? (i := 143) rfl) rfl
set_option maxRecDepth 20000 in
theorem T_624 : (Jvm.Cond.code ({ cls := "RecordCalls$Server", name := "giveRemoved", desc := "()V" } : Jvm.MethodName) prog_7_method_15_code (2 : Nat) (Option.none : Option Jvm.ClassFile.FieldType)) ∈ rc_tb := rc_tm3 (List.mem_of_getElem? (i := 144) rfl) rfl
set_option maxRecDepth 20000 in
theorem T_625 : (Jvm.Cond.methodLink "RecordCalls$Server" (214 : Nat) ({ cls := "RecordCalls$KeyMap", name := "remove", desc := "(I)V" } : Jvm.MethodName)) ∈ rc_tb := rc_tm3 (List.mem_of_getElem? (i := 145) rfl) rfl
set_option maxRecDepth 20000 in
theorem T_626 : (Jvm.Cond.instanceMethod ({ cls := "RecordCalls$KeyMap", name := "remove", desc := "(I)V" } : Jvm.MethodName)) ∈ rc_tb := rc_tm3 (List.mem_of_getElem? (i := 146) rfl) rfl
set_option maxRecDepth 20000 in
theorem T_627 : (Jvm.Cond.selects "RecordCalls$KeyMap" ({ cls := "RecordCalls$KeyMap", name := "remove", desc := "(I)V" } : Jvm.MethodName) ({ cls := "RecordCalls$KeyMap", name := "remove", desc := "(I)V" } : Jvm.MethodName)) ∈ rc_tb := rc_tm3 (List.mem_of_getElem? (i := 147) rfl) rfl
set_option maxRecDepth 20000 in
theorem T_628 : (Jvm.Cond.code ({ cls := "RecordCalls$KeyMap", name := "remove", desc := "(I)V" } : Jvm.MethodName) prog_3_method_10_code (4 : Nat) (Option.none : Option Jvm.ClassFile.FieldType)) ∈ rc_tb := rc_tm3 (List.mem_of_getElem? (i := 148) rfl) rfl
set_option maxRecDepth 20000 in
theorem T_629 : (Jvm.Cond.methodLink "RecordCalls$Server" (94 : Nat) ({ cls := "RecordCalls$Replies", name := "keep", desc := "(ILRecordCalls$Row;)V" } : Jvm.MethodName)) ∈ rc_tb := rc_tm3 (List.mem_of_getElem? (i := 149) rfl) rfl
set_option maxRecDepth 20000 in
theorem T_630 : (Jvm.Cond.instanceMethod ({ cls := "RecordCalls$Replies", name := "keep", desc := "(ILRecordCalls$Row;)V" } : Jvm.MethodName)) ∈ rc_tb := rc_tm3 (List.mem_of_getElem? (i := 150) rfl) rfl
set_option maxRecDepth 20000 in
theorem T_631 : (Jvm.Cond.selects "RecordCalls$Replies" ({ cls := "RecordCalls$Replies", name := "keep", desc := "(ILRecordCalls$Row;)V" } : Jvm.MethodName) ({ cls := "RecordCalls$Replies", name := "keep", desc := "(ILRecordCalls$Row;)V" } : Jvm.MethodName)) ∈ rc_tb := rc_tm3 (List.mem_of_getElem? (i := 151) rfl) rfl
set_option maxRecDepth 20000 in
theorem T_632 : (Jvm.Cond.code ({ cls := "RecordCalls$Replies", name := "keep", desc := "(ILRecordCalls$Row;)V" } : Jvm.MethodName) prog_5_method_3_code (4 : Nat) (Option.none : Option Jvm.ClassFile.FieldType)) ∈ rc_tb := rc_tm3 (List.mem_of_getElem? (i := 152) rfl) rfl
set_option maxRecDepth 20000 in
theorem T_633 : (Jvm.Cond.methodLink "RecordCalls$Replies" (29 : Nat) ({ cls := "RecordCalls$Row", name := "clear", desc := "()V" } : Jvm.MethodName)) ∈ rc_tb := rc_tm3 (List.mem_of_getElem? (i := 153) rfl) rfl
set_option maxRecDepth 20000 in
theorem T_634 : (Jvm.Cond.methodLink "RecordCalls$Replies" (32 : Nat) ({ cls := "RecordCalls$Row", name := "size", desc := "()I" } : Jvm.MethodName)) ∈ rc_tb := rc_tm3 (List.mem_of_getElem? (i := 154) rfl) rfl
set_option maxRecDepth 20000 in
theorem T_635 : (Jvm.Cond.methodLink "RecordCalls$Replies" (36 : Nat) ({ cls := "RecordCalls$Row", name := "addPart", desc := "(LRecordCalls$Row;II)V" } : Jvm.MethodName)) ∈ rc_tb := rc_tm3 (List.mem_of_getElem? (i := 155) rfl) rfl
set_option maxRecDepth 20000 in
theorem T_636 : (Jvm.Cond.methodLink "RecordCalls" (132 : Nat) ({ cls := "RecordCalls$Connection", name := "forgetRecord", desc := "()V" } : Jvm.MethodName)) ∈ rc_tb := rc_tm3 (List.mem_of_getElem? (i := 156) rfl) rfl
set_option maxRecDepth 20000 in
theorem T_637 : (Jvm.Cond.instanceMethod ({ cls := "RecordCalls$Connection", name := "forgetRecord", desc := "()V" } : Jvm.MethodName)) ∈ rc_tb := rc_tm3 (List.mem_of_getElem? (i := 157) rfl) rfl
set_option maxRecDepth 20000 in
theorem T_638 : (Jvm.Cond.selects "RecordCalls$Connection" ({ cls := "RecordCalls$Connection", name := "forgetRecord", desc := "()V" } : Jvm.MethodName) ({ cls := "RecordCalls$Connection", name := "forgetRecord", desc := "()V" } : Jvm.MethodName)) ∈ rc_tb := rc_tm3 (List.mem_of_getElem? (i := 158) rfl) rfl
set_option maxRecDepth 20000 in
theorem T_639 : (Jvm.Cond.code ({ cls := "RecordCalls$Connection", name := "forgetRecord", desc := "()V" } : Jvm.MethodName) prog_2_method_4_code (1 : Nat) (Option.none : Option Jvm.ClassFile.FieldType)) ∈ rc_tb := rc_tm3 (List.mem_of_getElem? (i := 159) rfl) rfl
set_option maxRecDepth 20000 in
theorem T_640 : (Jvm.Cond.methodLink "RecordCalls$Connection" (52 : Nat) ({ cls := "RecordCalls$Row", name := "clear", desc := "()V" } : Jvm.MethodName)) ∈ rc_tb := rc_tm3 (List.mem_of_getElem? (i := 160) rfl) rfl
set_option maxRecDepth 20000 in
theorem T_641 : (Jvm.Cond.methodLink "RecordCalls" (135 : Nat) ({ cls := "RecordCalls", name := "addReply", desc := "(LRecordCalls$Row;)I" } : Jvm.MethodName)) ∈ rc_tb := rc_tm3 (List.mem_of_getElem? (i := 161) rfl) rfl
set_option maxRecDepth 20000 in
theorem T_642 : (Jvm.Cond.privateMethod ({ cls := "RecordCalls", name := "addReply", desc := "(LRecordCalls$Row;)I" } : Jvm.MethodName)) ∈ rc_tb := rc_tm3 (List.mem_of_getElem? (i := 162) rfl) rfl
set_option maxRecDepth 20000 in
theorem T_643 : (Jvm.Cond.instanceMethod ({ cls := "RecordCalls", name := "addReply", desc := "(LRecordCalls$Row;)I" } : Jvm.MethodName)) ∈ rc_tb := rc_tm3 (List.mem_of_getElem? (i := 163) rfl) rfl
set_option maxRecDepth 20000 in
theorem T_644 : (Jvm.Cond.code ({ cls := "RecordCalls", name := "addReply", desc := "(LRecordCalls$Row;)I" } : Jvm.MethodName) prog_1_method_24_code (2 : Nat) (Option.some Jvm.ClassFile.FieldType.int)) ∈ rc_tb := rc_tm3 (List.mem_of_getElem? (i := 164) rfl) rfl
set_option maxRecDepth 20000 in
theorem T_645 : (Jvm.Cond.methodLink "RecordCallsLaw" (91 : Nat) ({ cls := "RecordCallsLaw", name := "open", desc := "(LRecordCalls;I[J)I" } : Jvm.MethodName)) ∈ rc_tb := rc_tm3 (List.mem_of_getElem? (i := 165) rfl) rfl
set_option maxRecDepth 20000 in
theorem T_646 : (Jvm.Cond.static ({ cls := "RecordCallsLaw", name := "open", desc := "(LRecordCalls;I[J)I" } : Jvm.MethodName)) ∈ rc_tb := rc_tm3 (List.mem_of_getElem? (i := 166) rfl) rfl
set_option maxRecDepth 20000 in
theorem T_647 : (Jvm.Cond.codeWith ({ cls := "RecordCallsLaw", name := "open", desc := "(LRecordCalls;I[J)I" } : Jvm.MethodName) method_8_code (4 : Nat) (Option.some Jvm.ClassFile.FieldType.int) [((0 : Nat), (16 : Nat), (19 : Nat), (33 : Nat))]) ∈ rc_tb := rc_tm3 (List.mem_of_getElem? (i := 167) rfl) rfl
set_option maxRecDepth 20000 in
theorem T_648 : (Jvm.Cond.methodLink "RecordCallsLaw" (35 : Nat) ({ cls := "RecordCalls", name := "open", desc := "(I)Z" } : Jvm.MethodName)) ∈ rc_tb := rc_tm3 (List.mem_of_getElem? (i := 168) rfl) rfl
set_option maxRecDepth 20000 in
theorem T_649 : (Jvm.Cond.instanceMethod ({ cls := "RecordCalls", name := "open", desc := "(I)Z" } : Jvm.MethodName)) ∈ rc_tb := rc_tm3 (List.mem_of_getElem? (i := 169) rfl) rfl
set_option maxRecDepth 20000 in
theorem T_650 : (Jvm.Cond.selects "RecordCalls" ({ cls := "RecordCalls", name := "open", desc := "(I)Z" } : Jvm.MethodName) ({ cls := "RecordCalls", name := "open", desc := "(I)Z" } : Jvm.MethodName)) ∈ rc_tb := rc_tm3 (List.mem_of_getElem? (i := 170) rfl) rfl
set_option maxRecDepth 20000 in
theorem T_651 : (Jvm.Cond.code ({ cls := "RecordCalls", name := "open", desc := "(I)Z" } : Jvm.MethodName) prog_1_method_8_code (2 : Nat) (Option.some Jvm.ClassFile.FieldType.boolean)) ∈ rc_tb := rc_tm3 (List.mem_of_getElem? (i := 171) rfl) rfl
set_option maxRecDepth 20000 in
theorem T_652 : (Jvm.Cond.methodLink "RecordCalls" (139 : Nat) ({ cls := "RecordCalls$Connection", name := "openAnew", desc := "()Z" } : Jvm.MethodName)) ∈ rc_tb := rc_tm3 (List.mem_of_getElem? (i := 172) rfl) rfl
set_option maxRecDepth 20000 in
theorem T_653 : (Jvm.Cond.instanceMethod ({ cls := "RecordCalls$Connection", name := "openAnew", desc := "()Z" } : Jvm.MethodName)) ∈ rc_tb := rc_tm3 (List.mem_of_getElem? (i := 173) rfl) rfl
set_option maxRecDepth 20000 in
theorem T_654 : (Jvm.Cond.selects "RecordCalls$Connection" ({ cls := "RecordCalls$Connection", name := "openAnew", desc := "()Z" } : Jvm.MethodName) ({ cls := "RecordCalls$Connection", name := "openAnew", desc := "()Z" } : Jvm.MethodName)) ∈ rc_tb := rc_tm3 (List.mem_of_getElem? (i := 174) rfl) rfl
set_option maxRecDepth 20000 in
theorem T_655 : (Jvm.Cond.code ({ cls := "RecordCalls$Connection", name := "openAnew", desc := "()Z" } : Jvm.MethodName) prog_2_method_5_code (2 : Nat) (Option.some Jvm.ClassFile.FieldType.boolean)) ∈ rc_tb := rc_tm3 (List.mem_of_getElem? (i := 175) rfl) rfl
set_option maxRecDepth 20000 in
theorem T_656 : (Jvm.Cond.methodLink "RecordCalls$Connection" (55 : Nat) ({ cls := "RecordCalls$Connection", name := "forgetRecord", desc := "()V" } : Jvm.MethodName)) ∈ rc_tb := rc_tm3 (List.mem_of_getElem? (i := 176) rfl) rfl
set_option maxRecDepth 20000 in
theorem T_657 : (Jvm.Cond.methodLink "RecordCallsLaw" (94 : Nat) ({ cls := "RecordCallsLaw", name := "length", desc := "(LRecordCalls;I[J)I" } : Jvm.MethodName)) ∈ rc_tb := rc_tm3 (List.mem_of_getElem? (i := 177) rfl) rfl
set_option maxRecDepth 20000 in
theorem T_658 : (Jvm.Cond.static ({ cls := "RecordCallsLaw", name := "length", desc := "(LRecordCalls;I[J)I" } : Jvm.MethodName)) ∈ rc_tb := rc_tm3 (List.mem_of_getElem? (i := 178) rfl) rfl
set_option maxRecDepth 20000 in
theorem T_659 : (Jvm.Cond.codeWith ({ cls := "RecordCallsLaw", name := "length", desc := "(LRecordCalls;I[J)I" } : Jvm.MethodName) method_9_code (4 : Nat) (Option.some Jvm.ClassFile.FieldType.int) [((0 : Nat), (9 : Nat), (12 : Nat), (33 : Nat))]) ∈ rc_tb := rc_tm3 (List.mem_of_getElem? (i := 179) rfl) rfl
set_option maxRecDepth 20000 in
theorem T_660 : (Jvm.Cond.methodLink "RecordCallsLaw" (39 : Nat) ({ cls := "RecordCalls", name := "length", desc := "(I)I" } : Jvm.MethodName)) ∈ rc_tb := rc_tm3 (List.mem_of_getElem? (i := 180) rfl) rfl
set_option maxRecDepth 20000 in
theorem T_661 : (Jvm.Cond.instanceMethod ({ cls := "RecordCalls", name := "length", desc := "(I)I" } : Jvm.MethodName)) ∈ rc_tb := rc_tm3 (List.mem_of_getElem? (i := 181) rfl) rfl
set_option maxRecDepth 20000 in
theorem T_662 : (Jvm.Cond.selects "RecordCalls" ({ cls := "RecordCalls", name := "length", desc := "(I)I" } : Jvm.MethodName) ({ cls := "RecordCalls", name := "length", desc := "(I)I" } : Jvm.MethodName)) ∈ rc_tb := rc_tm3 (List.mem_of_getElem? (i := 182) rfl) rfl
set_option maxRecDepth 20000 in
theorem T_663 : (Jvm.Cond.code ({ cls := "RecordCalls", name := "length", desc := "(I)I" } : Jvm.MethodName) prog_1_method_9_code (2 : Nat) (Option.some Jvm.ClassFile.FieldType.int)) ∈ rc_tb := rc_tm3 (List.mem_of_getElem? (i := 183) rfl) rfl
set_option maxRecDepth 20000 in
theorem T_664 : (Jvm.Cond.methodLink "RecordCallsLaw" (97 : Nat) ({ cls := "RecordCallsLaw", name := "byteAt", desc := "(LRecordCalls;II[J)I" } : Jvm.MethodName)) ∈ rc_tb := rc_tm3 (List.mem_of_getElem? (i := 184) rfl) rfl
set_option maxRecDepth 20000 in
theorem T_665 : (Jvm.Cond.static ({ cls := "RecordCallsLaw", name := "byteAt", desc := "(LRecordCalls;II[J)I" } : Jvm.MethodName)) ∈ rc_tb := rc_tm3 (List.mem_of_getElem? (i := 185) rfl) rfl
set_option maxRecDepth 20000 in
theorem T_666 : (Jvm.Cond.codeWith ({ cls := "RecordCallsLaw", name := "byteAt", desc := "(LRecordCalls;II[J)I" } : Jvm.MethodName) method_10_code (5 : Nat) (Option.some Jvm.ClassFile.FieldType.int) [((0 : Nat), (10 : Nat), (13 : Nat), (33 : Nat))]) ∈ rc_tb := rc_tm3 (List.mem_of_getElem? (i := 186) rfl) rfl
set_option maxRecDepth 20000 in
theorem T_667 : (Jvm.Cond.methodLink "RecordCallsLaw" (42 : Nat) ({ cls := "RecordCalls", name := "byteAt", desc := "(II)I" } : Jvm.MethodName)) ∈ rc_tb := rc_tm3 (List.mem_of_getElem? (i := 187) rfl) rfl
set_option maxRecDepth 20000 in
theorem T_668 : (Jvm.Cond.instanceMethod ({ cls := "RecordCalls", name := "byteAt", desc := "(II)I" } : Jvm.MethodName)) ∈ rc_tb := rc_tm3 (List.mem_of_getElem? (i := 188) rfl) rfl
set_option maxRecDepth 20000 in
theorem T_669 : (Jvm.Cond.selects "RecordCalls" ({ cls := "RecordCalls", name := "byteAt", desc := "(II)I" } : Jvm.MethodName) ({ cls := "RecordCalls", name := "byteAt", desc := "(II)I" } : Jvm.MethodName)) ∈ rc_tb := rc_tm3 (List.mem_of_getElem? (i := 189) rfl) rfl
set_option maxRecDepth 20000 in
theorem T_670 : (Jvm.Cond.code ({ cls := "RecordCalls", name := "byteAt", desc := "(II)I" } : Jvm.MethodName) prog_1_method_10_code (3 : Nat) (Option.some Jvm.ClassFile.FieldType.int)) ∈ rc_tb := rc_tm3 (List.mem_of_getElem? (i := 190) rfl) rfl
set_option maxRecDepth 20000 in
theorem T_671 : (Jvm.Cond.methodLink "RecordCallsLaw" (101 : Nat) ({ cls := "RecordCallsLaw", name := "word", desc := "(LRecordCalls;II[J)I" } : Jvm.MethodName)) ∈ rc_tb := rc_tm3 (List.mem_of_getElem? (i := 191) rfl) rfl
set_option maxRecDepth 20000 in
theorem T_672 : (Jvm.Cond.static ({ cls := "RecordCallsLaw", name := "word", desc := "(LRecordCalls;II[J)I" } : Jvm.MethodName)) ∈ rc_tb := rc_tm3 (List.mem_of_getElem? (i := 192) rfl) rfl
set_option maxRecDepth 20000 in
theorem T_673 : (Jvm.Cond.codeWith ({ cls := "RecordCallsLaw", name := "word", desc := "(LRecordCalls;II[J)I" } : Jvm.MethodName) method_11_code (5 : Nat) (Option.some Jvm.ClassFile.FieldType.int) [((0 : Nat), (10 : Nat), (13 : Nat), (33 : Nat))]) ∈ rc_tb := rc_tm3 (List.mem_of_getElem? (i := 193) rfl) rfl
set_option maxRecDepth 20000 in
theorem T_674 : (Jvm.Cond.methodLink "RecordCallsLaw" (46 : Nat) ({ cls := "RecordCalls", name := "word", desc := "(II)I" } : Jvm.MethodName)) ∈ rc_tb := rc_tm3 (List.mem_of_getElem? (i := 194) rfl) rfl
set_option maxRecDepth 20000 in
theorem T_675 : (Jvm.Cond.instanceMethod ({ cls := "RecordCalls", name := "word", desc := "(II)I" } : Jvm.MethodName)) ∈ rc_tb := rc_tm3 (List.mem_of_getElem? (i := 195) rfl) rfl
set_option maxRecDepth 20000 in
theorem T_676 : (Jvm.Cond.selects "RecordCalls" ({ cls := "RecordCalls", name := "word", desc := "(II)I" } : Jvm.MethodName) ({ cls := "RecordCalls", name := "word", desc := "(II)I" } : Jvm.MethodName)) ∈ rc_tb := rc_tm3 (List.mem_of_getElem? (i := 196) rfl) rfl
set_option maxRecDepth 20000 in
theorem T_677 : (Jvm.Cond.code ({ cls := "RecordCalls", name := "word", desc := "(II)I" } : Jvm.MethodName) prog_1_method_11_code (3 : Nat) (Option.some Jvm.ClassFile.FieldType.int)) ∈ rc_tb := rc_tm3 (List.mem_of_getElem? (i := 197) rfl) rfl
set_option maxRecDepth 20000 in
theorem T_678 : (Jvm.Cond.methodLink "RecordCalls" (143 : Nat) ({ cls := "RecordCalls$Row", name := "wordAt", desc := "(I)I" } : Jvm.MethodName)) ∈ rc_tb := rc_tm3 (List.mem_of_getElem? (i := 198) rfl) rfl
set_option maxRecDepth 20000 in
theorem T_679 : (Jvm.Cond.methodLink "RecordCallsLaw" (104 : Nat) ({ cls := "RecordCallsLaw", name := "says", desc := "(LRecordCalls;II[J)I" } : Jvm.MethodName)) ∈ rc_tb := rc_tm3 (List.mem_of_getElem? (i := 199) rfl) rfl
set_option maxRecDepth 20000 in
theorem T_680 : (Jvm.Cond.static ({ cls := "RecordCallsLaw", name := "says", desc := "(LRecordCalls;II[J)I" } : Jvm.MethodName)) ∈ rc_tb := rc_tm3 (List.mem_of_getElem? (i := 200) rfl) rfl
set_option maxRecDepth 20000 in
theorem T_681 : (Jvm.Cond.codeWith ({ cls := "RecordCallsLaw", name := "says", desc := "(LRecordCalls;II[J)I" } : Jvm.MethodName) method_12_code (5 : Nat) (Option.some Jvm.ClassFile.FieldType.int) [((0 : Nat), (10 : Nat), (13 : Nat), (33 : Nat))]) ∈ rc_tb := rc_tm3 (List.mem_of_getElem? (i := 201) rfl) rfl
set_option maxRecDepth 20000 in
theorem T_682 : (Jvm.Cond.methodLink "RecordCallsLaw" (49 : Nat) ({ cls := "RecordCalls", name := "says", desc := "(II)I" } : Jvm.MethodName)) ∈ rc_tb := rc_tm3 (List.mem_of_getElem? (i := 202) rfl) rfl
set_option maxRecDepth 20000 in
theorem T_683 : (Jvm.Cond.instanceMethod ({ cls := "RecordCalls", name := "says", desc := "(II)I" } : Jvm.MethodName)) ∈ rc_tb := rc_tm3 (List.mem_of_getElem? (i := 203) rfl) rfl
set_option maxRecDepth 20000 in
theorem T_684 : (Jvm.Cond.selects "RecordCalls" ({ cls := "RecordCalls", name := "says", desc := "(II)I" } : Jvm.MethodName) ({ cls := "RecordCalls", name := "says", desc := "(II)I" } : Jvm.MethodName)) ∈ rc_tb := rc_tm3 (List.mem_of_getElem? (i := 204) rfl) rfl
set_option maxRecDepth 20000 in
theorem T_685 : (Jvm.Cond.code ({ cls := "RecordCalls", name := "says", desc := "(II)I" } : Jvm.MethodName) prog_1_method_12_code (4 : Nat) (Option.some Jvm.ClassFile.FieldType.int)) ∈ rc_tb := rc_tm3 (List.mem_of_getElem? (i := 205) rfl) rfl
set_option maxRecDepth 20000 in
theorem T_686 : (Jvm.Cond.methodLink "RecordCalls" (146 : Nat) ({ cls := "RecordCalls", name := "isJoined", desc := "(LRecordCalls$Row;)Z" } : Jvm.MethodName)) ∈ rc_tb := rc_tm3 (List.mem_of_getElem? (i := 206) rfl) rfl
set_option maxRecDepth 20000 in
theorem T_687 : (Jvm.Cond.privateMethod ({ cls := "RecordCalls", name := "isJoined", desc := "(LRecordCalls$Row;)Z" } : Jvm.MethodName)) ∈ rc_tb := rc_tm3 (List.mem_of_getElem? (i := 207) rfl) rfl
set_option maxRecDepth 20000 in
theorem T_688 : (Jvm.Cond.instanceMethod ({ cls := "RecordCalls", name := "isJoined", desc := "(LRecordCalls$Row;)Z" } : Jvm.MethodName)) ∈ rc_tb := rc_tm3 (List.mem_of_getElem? (i := 208) rfl) rfl
set_option maxRecDepth 20000 in
theorem T_689 : (Jvm.Cond.code ({ cls := "RecordCalls", name := "isJoined", desc := "(LRecordCalls$Row;)Z" } : Jvm.MethodName) prog_1_method_26_code (6 : Nat) (Option.some Jvm.ClassFile.FieldType.boolean)) ∈ rc_tb := rc_tm3 (List.mem_of_getElem? (i := 209) rfl) rfl
set_option maxRecDepth 20000 in
theorem T_690 : (Jvm.Cond.constant "RecordCalls" (183 : Nat) (2147483647 : Int32)) ∈ rc_tb := rc_tm3 (List.mem_of_getElem? (i := 210) rfl) rfl
set_option maxRecDepth 20000 in
theorem T_691 : (Jvm.Cond.methodLink "RecordCalls" (150 : Nat) ({ cls := "RecordCalls", name := "saidBy", desc := "(LRecordCalls$Row;)I" } : Jvm.MethodName)) ∈ rc_tb := rc_tm3 (List.mem_of_getElem? (i := 211) rfl) rfl
set_option maxRecDepth 20000 in
theorem T_692 : (Jvm.Cond.static ({ cls := "RecordCalls", name := "saidBy", desc := "(LRecordCalls$Row;)I" } : Jvm.MethodName)) ∈ rc_tb := rc_tm3 (List.mem_of_getElem? (i := 212) rfl) rfl
set_option maxRecDepth 20000 in
theorem T_693 : (Jvm.Cond.code ({ cls := "RecordCalls", name := "saidBy", desc := "(LRecordCalls$Row;)I" } : Jvm.MethodName) prog_1_method_27_code (1 : Nat) (Option.some Jvm.ClassFile.FieldType.int)) ∈ rc_tb := rc_tm3 (List.mem_of_getElem? (i := 213) rfl) rfl
set_option maxRecDepth 20000 in
theorem T_694 : (Jvm.Cond.methodLink "RecordCalls" (184 : Nat) ({ cls := "RecordCalls", name := "saidByAccepted", desc := "(LRecordCalls$Row;)I" } : Jvm.MethodName)) ∈ rc_tb := rc_tm3 (List.mem_of_getElem? (i := 214) rfl) rfl
set_option maxRecDepth 20000 in
theorem T_695 : (Jvm.Cond.static ({ cls := "RecordCalls", name := "saidByAccepted", desc := "(LRecordCalls$Row;)I" } : Jvm.MethodName)) ∈ rc_tb := rc_tm3 (List.mem_of_getElem? (i := 215) rfl) rfl
set_option maxRecDepth 20000 in
theorem T_696 : (Jvm.Cond.code ({ cls := "RecordCalls", name := "saidByAccepted", desc := "(LRecordCalls$Row;)I" } : Jvm.MethodName) prog_1_method_28_code (5 : Nat) (Option.some Jvm.ClassFile.FieldType.int)) ∈ rc_tb := rc_tm3 (List.mem_of_getElem? (i := 216) rfl) rfl
set_option maxRecDepth 20000 in
theorem T_697 : (Jvm.Cond.methodLink "RecordCalls" (187 : Nat) ({ cls := "RecordCalls", name := "saidByRefused", desc := "(LRecordCalls$Row;)I" } : Jvm.MethodName)) ∈ rc_tb := rc_tm3 (List.mem_of_getElem? (i := 217) rfl) rfl
set_option maxRecDepth 20000 in
theorem T_698 : (Jvm.Cond.static ({ cls := "RecordCalls", name := "saidByRefused", desc := "(LRecordCalls$Row;)I" } : Jvm.MethodName)) ∈ rc_tb := rc_tm3 (List.mem_of_getElem? (i := 218) rfl) rfl
set_option maxRecDepth 20000 in
theorem T_699 : (Jvm.Cond.code ({ cls := "RecordCalls", name := "saidByRefused", desc := "(LRecordCalls$Row;)I" } : Jvm.MethodName) prog_1_method_29_code (3 : Nat) (Option.some Jvm.ClassFile.FieldType.int)) ∈ rc_tb := rc_tm3 (List.mem_of_getElem? (i := 219) rfl) rfl
set_option maxRecDepth 20000 in
theorem T_700 : (Jvm.Cond.methodLink "RecordCallsLaw" (117 : Nat) ({ cls := "RecordCallsLaw", name := "count", desc := "(LRecordCalls;I[J)I" } : Jvm.MethodName)) ∈ rc_tb := rc_tm3 (List.mem_of_getElem? (i := 220) rfl) rfl
set_option maxRecDepth 20000 in
theorem T_701 : (Jvm.Cond.static ({ cls := "RecordCallsLaw", name := "count", desc := "(LRecordCalls;I[J)I" } : Jvm.MethodName)) ∈ rc_tb := rc_tm3 (List.mem_of_getElem? (i := 221) rfl) rfl
set_option maxRecDepth 20000 in
theorem T_702 : (Jvm.Cond.codeWith ({ cls := "RecordCallsLaw", name := "count", desc := "(LRecordCalls;I[J)I" } : Jvm.MethodName) method_13_code (4 : Nat) (Option.some Jvm.ClassFile.FieldType.int) [((0 : Nat), (9 : Nat), (12 : Nat), (19 : Nat))]) ∈ rc_tb := rc_tm3 (List.mem_of_getElem? (i := 222) rfl) rfl
set_option maxRecDepth 20000 in
theorem T_703 : (Jvm.Cond.methodLink "RecordCallsLaw" (52 : Nat) ({ cls := "RecordCalls", name := "count", desc := "(I)I" } : Jvm.MethodName)) ∈ rc_tb := rc_tm3 (List.mem_of_getElem? (i := 223) rfl) rfl
set_option maxRecDepth 20000 in
theorem T_704 : (Jvm.Cond.instanceMethod ({ cls := "RecordCalls", name := "count", desc := "(I)I" } : Jvm.MethodName)) ∈ rc_tb := rc_tm3 (List.mem_of_getElem? (i := 224) rfl) rfl
set_option maxRecDepth 20000 in
theorem T_705 : (Jvm.Cond.selects "RecordCalls" ({ cls := "RecordCalls", name := "count", desc := "(I)I" } : Jvm.MethodName) ({ cls := "RecordCalls", name := "count", desc := "(I)I" } : Jvm.MethodName)) ∈ rc_tb := rc_tm3 (List.mem_of_getElem? (i := 225) rfl) rfl
set_option maxRecDepth 20000 in
theorem T_706 : (Jvm.Cond.code ({ cls := "RecordCalls", name := "count", desc := "(I)I" } : Jvm.MethodName) prog_1_method_15_code (3 : Nat) (Option.some Jvm.ClassFile.FieldType.int)) ∈ rc_tb := rc_tm3 (List.mem_of_getElem? (i := 226) rfl) rfl
set_option maxRecDepth 20000 in
theorem T_707 : (Jvm.Cond.methodLink "RecordCalls" (166 : Nat) ({ cls := "RecordCalls$KeyMap", name := "size", desc := "()I" } : Jvm.MethodName)) ∈ rc_tb := rc_tm3 (List.mem_of_getElem? (i := 227) rfl) rfl
set_option maxRecDepth 20000 in
theorem T_708 : (Jvm.Cond.methodLink "RecordCalls" (176 : Nat) ({ cls := "RecordCalls$Connection", name := "bytesWaiting", desc := "()I" } : Jvm.MethodName)) ∈ rc_tb := rc_tm3 (List.mem_of_getElem? (i := 228) rfl) rfl
set_option maxRecDepth 20000 in
theorem T_709 : (Jvm.Cond.instanceMethod ({ cls := "RecordCalls$Connection", name := "bytesWaiting", desc := "()I" } : Jvm.MethodName)) ∈ rc_tb := rc_tm3 (List.mem_of_getElem? (i := 229) rfl) rfl
set_option maxRecDepth 20000 in
theorem T_710 : (Jvm.Cond.selects "RecordCalls$Connection" ({ cls := "RecordCalls$Connection", name := "bytesWaiting", desc := "()I" } : Jvm.MethodName) ({ cls := "RecordCalls$Connection", name := "bytesWaiting", desc := "()I" } : Jvm.MethodName)) ∈ rc_tb := rc_tm3 (List.mem_of_getElem? (i := 230) rfl) rfl
set_option maxRecDepth 20000 in
theorem T_711 : (Jvm.Cond.code ({ cls := "RecordCalls$Connection", name := "bytesWaiting", desc := "()I" } : Jvm.MethodName) prog_2_method_6_code (1 : Nat) (Option.some Jvm.ClassFile.FieldType.int)) ∈ rc_tb := rc_tm3 (List.mem_of_getElem? (i := 231) rfl) rfl
set_option maxRecDepth 20000 in
theorem T_712 : (Jvm.Cond.classLink "RecordCallsLaw" (56 : Nat) "RecordCallsModel") ∈ rc_tb := rc_tm3 (List.mem_of_getElem? (i := 232) rfl) rfl
set_option maxRecDepth 20000 in
theorem T_713 : (Jvm.Cond.instantiable "RecordCallsModel" (34 : Nat)) ∈ rc_tb := rc_tm3 (List.mem_of_getElem? (i := 233) rfl) rfl
set_option maxRecDepth 20000 in
theorem T_714 : (Jvm.Cond.methodLink "RecordCallsLaw" (58 : Nat) ({ cls := "RecordCallsModel", name := "<init>", desc := "()V" } : Jvm.MethodName)) ∈ rc_tb := rc_tm3 (List.mem_of_getElem? (i := 234) rfl) rfl
set_option maxRecDepth 20000 in
theorem T_715 : (Jvm.Cond.instanceMethod ({ cls := "RecordCallsModel", name := "<init>", desc := "()V" } : Jvm.MethodName)) ∈ rc_tb := rc_tm3 (List.mem_of_getElem? (i := 235) rfl) rfl
set_option maxRecDepth 20000 in
theorem T_716 : (Jvm.Cond.code ({ cls := "RecordCallsModel", name := "<init>", desc := "()V" } : Jvm.MethodName) prog_9_method_1_code (1 : Nat) (Option.none : Option Jvm.ClassFile.FieldType)) ∈ rc_tb := rc_tm3 (List.mem_of_getElem? (i := 236) rfl) rfl
set_option maxRecDepth 20000 in
theorem T_717 : (Jvm.Cond.methodLink "RecordCallsModel" (1 : Nat) ({ cls := "java/lang/Object", name := "<init>", desc := "()V" } : Jvm.MethodName)) ∈ rc_tb := rc_tm3 (List.mem_of_getElem? (i := 237) rfl) rfl
set_option maxRecDepth 20000 in
theorem T_718 : (Jvm.Cond.constant "RecordCallsModel" (13 : Nat) (102400 : Int32)) ∈ rc_tb := rc_tm3 (List.mem_of_getElem? (i := 238) rfl) rfl
set_option maxRecDepth 20000 in
theorem T_719 : (Jvm.Cond.fieldLink "RecordCallsModel" (74 : Nat) "RecordCallsModel" "thrown" "I") ∈ rc_tb := rc_tm3 (List.mem_of_getElem? (i := 239) rfl) rfl
set_option maxRecDepth 20000 in
theorem T_720 : (Jvm.Cond.fieldLink "RecordCallsModel" (7 : Nat) "RecordCallsModel" "tape" "[I") ∈ rc_tb := rc_tm4 (List.mem_of_getElem? (i := 0) rfl) rfl
set_option maxRecDepth 20000 in
theorem T_721 : (Jvm.Cond.fieldLink "RecordCallsModel" (93 : Nat) "RecordCallsModel" "tapeSize" "I") ∈ rc_tb := rc_tm4 (List.mem_of_getElem? (i := 1) rfl) rfl
set_option maxRecDepth 20000 in
theorem T_722 : (Jvm.Cond.fieldLink "RecordCallsModel" (14 : Nat) "RecordCallsModel" "slots" "[B") ∈ rc_tb := rc_tm4 (List.mem_of_getElem? (i := 2) rfl) rfl
set_option maxRecDepth 20000 in
theorem T_723 : (Jvm.Cond.fieldLink "RecordCallsModel" (18 : Nat) "RecordCallsModel" "lengths" "[I") ∈ rc_tb := rc_tm4 (List.mem_of_getElem? (i := 3) rfl) rfl
set_option maxRecDepth 20000 in
theorem T_724 : (Jvm.Cond.fieldLink "RecordCallsModel" (78 : Nat) "RecordCallsModel" "made" "I") ∈ rc_tb := rc_tm4 (List.mem_of_getElem? (i := 4) rfl) rfl
set_option maxRecDepth 20000 in
theorem T_725 : (Jvm.Cond.fieldLink "RecordCallsModel" (21 : Nat) "RecordCallsModel" "pushed" "[B") ∈ rc_tb := rc_tm4 (List.mem_of_getElem? (i := 5) rfl) rfl
set_option maxRecDepth 20000 in
theorem T_726 : (Jvm.Cond.fieldLink "RecordCallsModel" (24 : Nat) "RecordCallsModel" "keyBytes" "[B") ∈ rc_tb := rc_tm4 (List.mem_of_getElem? (i := 6) rfl) rfl
set_option maxRecDepth 20000 in
theorem T_727 : (Jvm.Cond.fieldLink "RecordCallsModel" (27 : Nat) "RecordCallsModel" "keySizes" "[I") ∈ rc_tb := rc_tm4 (List.mem_of_getElem? (i := 7) rfl) rfl
set_option maxRecDepth 20000 in
theorem T_728 : (Jvm.Cond.fieldLink "RecordCallsModel" (30 : Nat) "RecordCallsModel" "values" "[J") ∈ rc_tb := rc_tm4 (List.mem_of_getElem? (i := 8) rfl) rfl
set_option maxRecDepth 20000 in
theorem T_729 : (Jvm.Cond.fieldLink "RecordCallsModel" (188 : Nat) "RecordCallsModel" "keys" "I") ∈ rc_tb := rc_tm4 (List.mem_of_getElem? (i := 9) rfl) rfl
set_option maxRecDepth 20000 in
theorem T_730 : (Jvm.Cond.fieldLink "RecordCallsModel" (34 : Nat) "RecordCallsModel" "records" "[B") ∈ rc_tb := rc_tm4 (List.mem_of_getElem? (i := 10) rfl) rfl
set_option maxRecDepth 20000 in
theorem T_731 : (Jvm.Cond.fieldLink "RecordCallsModel" (37 : Nat) "RecordCallsModel" "sizes" "[I") ∈ rc_tb := rc_tm4 (List.mem_of_getElem? (i := 11) rfl) rfl
set_option maxRecDepth 20000 in
theorem T_732 : (Jvm.Cond.fieldLink "RecordCallsModel" (40 : Nat) "RecordCallsModel" "wordSizes" "[I") ∈ rc_tb := rc_tm4 (List.mem_of_getElem? (i := 12) rfl) rfl
set_option maxRecDepth 20000 in
theorem T_733 : (Jvm.Cond.fieldLink "RecordCallsModel" (43 : Nat) "RecordCallsModel" "words" "[I") ∈ rc_tb := rc_tm4 (List.mem_of_getElem? (i := 13) rfl) rfl
set_option maxRecDepth 20000 in
theorem T_734 : (Jvm.Cond.fieldLink "RecordCallsModel" (46 : Nat) "RecordCallsModel" "left" "[I") ∈ rc_tb := rc_tm4 (List.mem_of_getElem? (i := 14) rfl) rfl
set_option maxRecDepth 20000 in
theorem T_735 : (Jvm.Cond.fieldLink "RecordCallsModel" (49 : Nat) "RecordCallsModel" "last" "[Z") ∈ rc_tb := rc_tm4 (List.mem_of_getElem? (i := 15) rfl) rfl
set_option maxRecDepth 20000 in
theorem T_736 : (Jvm.Cond.fieldLink "RecordCallsModel" (53 : Nat) "RecordCallsModel" "inside" "[Z") ∈ rc_tb := rc_tm4 (List.mem_of_getElem? (i := 16) rfl) rfl
set_option maxRecDepth 20000 in
theorem T_737 : (Jvm.Cond.fieldLink "RecordCallsModel" (56 : Nat) "RecordCallsModel" "broken" "[Z") ∈ rc_tb := rc_tm4 (List.mem_of_getElem? (i := 17) rfl) rfl
set_option maxRecDepth 20000 in
theorem T_738 : (Jvm.Cond.fieldLink "RecordCallsModel" (59 : Nat) "RecordCallsModel" "replyNumber" "[I") ∈ rc_tb := rc_tm4 (List.mem_of_getElem? (i := 18) rfl) rfl
set_option maxRecDepth 20000 in
theorem T_739 : (Jvm.Cond.fieldLink "RecordCallsModel" (62 : Nat) "RecordCallsModel" "replySize" "[I") ∈ rc_tb := rc_tm4 (List.mem_of_getElem? (i := 19) rfl) rfl
set_option maxRecDepth 20000 in
theorem T_740 : (Jvm.Cond.fieldLink "RecordCallsModel" (65 : Nat) "RecordCallsModel" "replyBytes" "[B") ∈ rc_tb := rc_tm4 (List.mem_of_getElem? (i := 20) rfl) rfl
set_option maxRecDepth 20000 in
theorem T_741 : (Jvm.Cond.fieldLink "RecordCallsModel" (68 : Nat) "RecordCallsModel" "replies" "[I") ∈ rc_tb := rc_tm4 (List.mem_of_getElem? (i := 21) rfl) rfl
set_option maxRecDepth 20000 in
theorem T_742 : (Jvm.Cond.fieldLink "RecordCallsModel" (175 : Nat) "RecordCallsModel" "done" "I") ∈ rc_tb := rc_tm4 (List.mem_of_getElem? (i := 22) rfl) rfl
set_option maxRecDepth 20000 in
theorem T_743 : (Jvm.Cond.fieldLink "RecordCallsModel" (150 : Nat) "RecordCallsModel" "repeated" "I") ∈ rc_tb := rc_tm4 (List.mem_of_getElem? (i := 23) rfl) rfl
set_option maxRecDepth 20000 in
theorem T_744 : (Jvm.Cond.fieldLink "RecordCallsModel" (147 : Nat) "RecordCallsModel" "bad" "I") ∈ rc_tb := rc_tm4 (List.mem_of_getElem? (i := 24) rfl) rfl
set_option maxRecDepth 20000 in
theorem T_745 : (Jvm.Cond.fieldLink "RecordCallsModel" (109 : Nat) "RecordCallsModel" "of" "I") ∈ rc_tb := rc_tm4 (List.mem_of_getElem? (i := 25) rfl) rfl
set_option maxRecDepth 20000 in
theorem T_746 : (Jvm.Cond.fieldLink "RecordCallsModel" (116 : Nat) "RecordCallsModel" "at" "I") ∈ rc_tb := rc_tm4 (List.mem_of_getElem? (i := 26) rfl) rfl
set_option maxRecDepth 20000 in
theorem T_747 : (Jvm.Cond.fieldLink "RecordCallsModel" (119 : Nat) "RecordCallsModel" "right" "Z") ∈ rc_tb := rc_tm4 (List.mem_of_getElem? (i := 27) rfl) rfl
set_option maxRecDepth 20000 in
theorem T_748 : (Jvm.Cond.fieldLink "RecordCallsModel" (134 : Nat) "RecordCallsModel" "keyAt" "I") ∈ rc_tb := rc_tm4 (List.mem_of_getElem? (i := 28) rfl) rfl
set_option maxRecDepth 20000 in
theorem T_749 : (Jvm.Cond.fieldLink "RecordCallsModel" (137 : Nat) "RecordCallsModel" "keySize" "I") ∈ rc_tb := rc_tm4 (List.mem_of_getElem? (i := 29) rfl) rfl
set_option maxRecDepth 20000 in
theorem T_750 : (Jvm.Cond.fieldLink "RecordCallsModel" (71 : Nat) "RecordCallsModel" "out" "[B") ∈ rc_tb := rc_tm4 (List.mem_of_getElem? (i := 30) rfl) rfl
set_option maxRecDepth 20000 in
theorem T_751 : (Jvm.Cond.fieldLink "RecordCallsModel" (140 : Nat) "RecordCallsModel" "outSize" "I") ∈ rc_tb := rc_tm4 (List.mem_of_getElem? (i := 31) rfl) rfl
set_option maxRecDepth 20000 in
theorem T_752 : (Jvm.Cond.fieldLink "RecordCallsModel" (181 : Nat) "RecordCallsModel" "taken" "I") ∈ rc_tb := rc_tm4 (List.mem_of_getElem? (i := 32) rfl) rfl
set_option maxRecDepth 20000 in
theorem T_753 : (Jvm.Cond.lays "RecordCallsModel" "RecordCallsModel" "thrown" "I") ∈ rc_tb := rc_tm4 (List.mem_of_getElem? (i := 33) rfl) rfl
set_option maxRecDepth 20000 in
theorem T_754 : (Jvm.Cond.soleField "RecordCallsModel" "thrown") ∈ rc_tb := rc_tm4 (List.mem_of_getElem? (i := 34) rfl) rfl
set_option maxRecDepth 20000 in
theorem T_755 : (Jvm.Cond.laysFinal "RecordCallsModel" "RecordCallsModel" "tape" "[I") ∈ rc_tb := rc_tm4 (List.mem_of_getElem? (i := 35) rfl) rfl
set_option maxRecDepth 20000 in
theorem T_756 : (Jvm.Cond.soleField "RecordCallsModel" "tape") ∈ rc_tb := rc_tm4 (List.mem_of_getElem? (i := 36) rfl) rfl
set_option maxRecDepth 20000 in
theorem T_757 : (Jvm.Cond.lays "RecordCallsModel" "RecordCallsModel" "tapeSize" "I") ∈ rc_tb := rc_tm4 (List.mem_of_getElem? (i := 37) rfl) rfl
set_option maxRecDepth 20000 in
theorem T_758 : (Jvm.Cond.soleField "RecordCallsModel" "tapeSize") ∈ rc_tb := rc_tm4 (List.mem_of_getElem? (i := 38) rfl) rfl
set_option maxRecDepth 20000 in
theorem T_759 : (Jvm.Cond.laysFinal "RecordCallsModel" "RecordCallsModel" "slots" "[B") ∈ rc_tb := rc_tm4 (List.mem_of_getElem? (i := 39) rfl) rfl
set_option maxRecDepth 20000 in
theorem T_760 : (Jvm.Cond.soleField "RecordCallsModel" "slots") ∈ rc_tb := rc_tm4 (List.mem_of_getElem? (i := 40) rfl) rfl
set_option maxRecDepth 20000 in
theorem T_761 : (Jvm.Cond.laysFinal "RecordCallsModel" "RecordCallsModel" "lengths" "[I") ∈ rc_tb := rc_tm4 (List.mem_of_getElem? (i := 41) rfl) rfl
set_option maxRecDepth 20000 in
theorem T_762 : (Jvm.Cond.soleField "RecordCallsModel" "lengths") ∈ rc_tb := rc_tm4 (List.mem_of_getElem? (i := 42) rfl) rfl
set_option maxRecDepth 20000 in
theorem T_763 : (Jvm.Cond.lays "RecordCallsModel" "RecordCallsModel" "made" "I") ∈ rc_tb := rc_tm4 (List.mem_of_getElem? (i := 43) rfl) rfl
set_option maxRecDepth 20000 in
theorem T_764 : (Jvm.Cond.soleField "RecordCallsModel" "made") ∈ rc_tb := rc_tm4 (List.mem_of_getElem? (i := 44) rfl) rfl
set_option maxRecDepth 20000 in
theorem T_765 : (Jvm.Cond.laysFinal "RecordCallsModel" "RecordCallsModel" "pushed" "[B") ∈ rc_tb := rc_tm4 (List.mem_of_getElem? (i := 45) rfl) rfl
set_option maxRecDepth 20000 in
theorem T_766 : (Jvm.Cond.soleField "RecordCallsModel" "pushed") ∈ rc_tb := rc_tm4 (List.mem_of_getElem? (i := 46) rfl) rfl
set_option maxRecDepth 20000 in
theorem T_767 : (Jvm.Cond.laysFinal "RecordCallsModel" "RecordCallsModel" "keyBytes" "[B") ∈ rc_tb := rc_tm4 (List.mem_of_getElem? (i := 47) rfl) rfl
set_option maxRecDepth 20000 in
theorem T_768 : (Jvm.Cond.soleField "RecordCallsModel" "keyBytes") ∈ rc_tb := rc_tm4 (List.mem_of_getElem? (i := 48) rfl) rfl
set_option maxRecDepth 20000 in
theorem T_769 : (Jvm.Cond.laysFinal "RecordCallsModel" "RecordCallsModel" "keySizes" "[I") ∈ rc_tb := rc_tm4 (List.mem_of_getElem? (i := 49) rfl) rfl
set_option maxRecDepth 20000 in
theorem T_770 : (Jvm.Cond.soleField "RecordCallsModel" "keySizes") ∈ rc_tb := rc_tm4 (List.mem_of_getElem? (i := 50) rfl) rfl
set_option maxRecDepth 20000 in
theorem T_771 : (Jvm.Cond.laysFinal "RecordCallsModel" "RecordCallsModel" "values" "[J") ∈ rc_tb := rc_tm4 (List.mem_of_getElem? (i := 51) rfl) rfl
set_option maxRecDepth 20000 in
theorem T_772 : (Jvm.Cond.soleField "RecordCallsModel" "values") ∈ rc_tb := rc_tm4 (List.mem_of_getElem? (i := 52) rfl) rfl
set_option maxRecDepth 20000 in
theorem T_773 : (Jvm.Cond.lays "RecordCallsModel" "RecordCallsModel" "keys" "I") ∈ rc_tb := rc_tm4 (List.mem_of_getElem? (i := 53) rfl) rfl
set_option maxRecDepth 20000 in
theorem T_774 : (Jvm.Cond.soleField "RecordCallsModel" "keys") ∈ rc_tb := rc_tm4 (List.mem_of_getElem? (i := 54) rfl) rfl
set_option maxRecDepth 20000 in
theorem T_775 : (Jvm.Cond.laysFinal "RecordCallsModel" "RecordCallsModel" "records" "[B") ∈ rc_tb := rc_tm4 (List.mem_of_getElem? (i := 55) rfl) rfl
set_option maxRecDepth 20000 in
theorem T_776 : (Jvm.Cond.soleField "RecordCallsModel" "records") ∈ rc_tb := rc_tm4 (List.mem_of_getElem? (i := 56) rfl) rfl
set_option maxRecDepth 20000 in
theorem T_777 : (Jvm.Cond.laysFinal "RecordCallsModel" "RecordCallsModel" "sizes" "[I") ∈ rc_tb := rc_tm4 (List.mem_of_getElem? (i := 57) rfl) rfl
set_option maxRecDepth 20000 in
theorem T_778 : (Jvm.Cond.soleField "RecordCallsModel" "sizes") ∈ rc_tb := rc_tm4 (List.mem_of_getElem? (i := 58) rfl) rfl
set_option maxRecDepth 20000 in
theorem T_779 : (Jvm.Cond.laysFinal "RecordCallsModel" "RecordCallsModel" "wordSizes" "[I") ∈ rc_tb := rc_tm4 (List.mem_of_getElem? (i := 59) rfl) rfl
set_option maxRecDepth 20000 in
theorem T_780 : (Jvm.Cond.soleField "RecordCallsModel" "wordSizes") ∈ rc_tb := rc_tm4 (List.mem_of_getElem? (i := 60) rfl) rfl
set_option maxRecDepth 20000 in
theorem T_781 : (Jvm.Cond.laysFinal "RecordCallsModel" "RecordCallsModel" "words" "[I") ∈ rc_tb := rc_tm4 (List.mem_of_getElem? (i := 61) rfl) rfl
set_option maxRecDepth 20000 in
theorem T_782 : (Jvm.Cond.soleField "RecordCallsModel" "words") ∈ rc_tb := rc_tm4 (List.mem_of_getElem? (i := 62) rfl) rfl
set_option maxRecDepth 20000 in
theorem T_783 : (Jvm.Cond.laysFinal "RecordCallsModel" "RecordCallsModel" "left" "[I") ∈ rc_tb := rc_tm4 (List.mem_of_getElem? (i := 63) rfl) rfl
set_option maxRecDepth 20000 in
theorem T_784 : (Jvm.Cond.soleField "RecordCallsModel" "left") ∈ rc_tb := rc_tm4 (List.mem_of_getElem? (i := 64) rfl) rfl
set_option maxRecDepth 20000 in
theorem T_785 : (Jvm.Cond.laysFinal "RecordCallsModel" "RecordCallsModel" "last" "[Z") ∈ rc_tb := rc_tm4 (List.mem_of_getElem? (i := 65) rfl) rfl
set_option maxRecDepth 20000 in
theorem T_786 : (Jvm.Cond.soleField "RecordCallsModel" "last") ∈ rc_tb := rc_tm4 (List.mem_of_getElem? (i := 66) rfl) rfl
set_option maxRecDepth 20000 in
theorem T_787 : (Jvm.Cond.laysFinal "RecordCallsModel" "RecordCallsModel" "inside" "[Z") ∈ rc_tb := rc_tm4 (List.mem_of_getElem? (i := 67) rfl) rfl
set_option maxRecDepth 20000 in
theorem T_788 : (Jvm.Cond.soleField "RecordCallsModel" "inside") ∈ rc_tb := rc_tm4 (List.mem_of_getElem? (i := 68) rfl) rfl
set_option maxRecDepth 20000 in
theorem T_789 : (Jvm.Cond.laysFinal "RecordCallsModel" "RecordCallsModel" "broken" "[Z") ∈ rc_tb := rc_tm4 (List.mem_of_getElem? (i := 69) rfl) rfl
set_option maxRecDepth 20000 in
theorem T_790 : (Jvm.Cond.soleField "RecordCallsModel" "broken") ∈ rc_tb := rc_tm4 (List.mem_of_getElem? (i := 70) rfl) rfl
set_option maxRecDepth 20000 in
theorem T_791 : (Jvm.Cond.laysFinal "RecordCallsModel" "RecordCallsModel" "replyNumber" "[I") ∈ rc_tb := rc_tm4 (List.mem_of_getElem? (i := 71) rfl) rfl
set_option maxRecDepth 20000 in
theorem T_792 : (Jvm.Cond.soleField "RecordCallsModel" "replyNumber") ∈ rc_tb := rc_tm4 (List.mem_of_getElem? (i := 72) rfl) rfl
set_option maxRecDepth 20000 in
theorem T_793 : (Jvm.Cond.laysFinal "RecordCallsModel" "RecordCallsModel" "replySize" "[I") ∈ rc_tb := rc_tm4 (List.mem_of_getElem? (i := 73) rfl) rfl
set_option maxRecDepth 20000 in
theorem T_794 : (Jvm.Cond.soleField "RecordCallsModel" "replySize") ∈ rc_tb := rc_tm4 (List.mem_of_getElem? (i := 74) rfl) rfl
set_option maxRecDepth 20000 in
theorem T_795 : (Jvm.Cond.laysFinal "RecordCallsModel" "RecordCallsModel" "replyBytes" "[B") ∈ rc_tb := rc_tm4 (List.mem_of_getElem? (i := 75) rfl) rfl
set_option maxRecDepth 20000 in
theorem T_796 : (Jvm.Cond.soleField "RecordCallsModel" "replyBytes") ∈ rc_tb := rc_tm4 (List.mem_of_getElem? (i := 76) rfl) rfl
set_option maxRecDepth 20000 in
theorem T_797 : (Jvm.Cond.laysFinal "RecordCallsModel" "RecordCallsModel" "replies" "[I") ∈ rc_tb := rc_tm4 (List.mem_of_getElem? (i := 77) rfl) rfl
set_option maxRecDepth 20000 in
theorem T_798 : (Jvm.Cond.soleField "RecordCallsModel" "replies") ∈ rc_tb := rc_tm4 (List.mem_of_getElem? (i := 78) rfl) rfl
set_option maxRecDepth 20000 in
theorem T_799 : (Jvm.Cond.lays "RecordCallsModel" "RecordCallsModel" "done" "I") ∈ rc_tb := rc_tm4 (List.mem_of_getElem? (i := 79) rfl) rfl
set_option maxRecDepth 20000 in
theorem T_800 : (Jvm.Cond.soleField "RecordCallsModel" "done") ∈ rc_tb := rc_tm4 (List.mem_of_getElem? (i := 80) rfl) rfl
set_option maxRecDepth 20000 in
theorem T_801 : (Jvm.Cond.lays "RecordCallsModel" "RecordCallsModel" "repeated" "I") ∈ rc_tb := rc_tm4 (List.mem_of_getElem? (i := 81) rfl) rfl
set_option maxRecDepth 20000 in
theorem T_802 : (Jvm.Cond.soleField "RecordCallsModel" "repeated") ∈ rc_tb := rc_tm4 (List.mem_of_getElem? (i := 82) rfl) rfl
set_option maxRecDepth 20000 in
theorem T_803 : (Jvm.Cond.lays "RecordCallsModel" "RecordCallsModel" "bad" "I") ∈ rc_tb := rc_tm4 (List.mem_of_getElem? (i := 83) rfl) rfl
set_option maxRecDepth 20000 in
theorem T_804 : (Jvm.Cond.soleField "RecordCallsModel" "bad") ∈ rc_tb := rc_tm4 (List.mem_of_getElem? (i := 84) rfl) rfl
set_option maxRecDepth 20000 in
theorem T_805 : (Jvm.Cond.lays "RecordCallsModel" "RecordCallsModel" "of" "I") ∈ rc_tb := rc_tm4 (List.mem_of_getElem? (i := 85) rfl) rfl
set_option maxRecDepth 20000 in
theorem T_806 : (Jvm.Cond.soleField "RecordCallsModel" "of") ∈ rc_tb := rc_tm4 (List.mem_of_getElem? (i := 86) rfl) rfl
set_option maxRecDepth 20000 in
theorem T_807 : (Jvm.Cond.lays "RecordCallsModel" "RecordCallsModel" "at" "I") ∈ rc_tb := rc_tm4 (List.mem_of_getElem? (i := 87) rfl) rfl
set_option maxRecDepth 20000 in
theorem T_808 : (Jvm.Cond.soleField "RecordCallsModel" "at") ∈ rc_tb := rc_tm4 (List.mem_of_getElem? (i := 88) rfl) rfl
set_option maxRecDepth 20000 in
theorem T_809 : (Jvm.Cond.lays "RecordCallsModel" "RecordCallsModel" "right" "Z") ∈ rc_tb := rc_tm4 (List.mem_of_getElem? (i := 89) rfl) rfl
set_option maxRecDepth 20000 in
theorem T_810 : (Jvm.Cond.soleField "RecordCallsModel" "right") ∈ rc_tb := rc_tm4 (List.mem_of_getElem? (i := 90) rfl) rfl
set_option maxRecDepth 20000 in
theorem T_811 : (Jvm.Cond.lays "RecordCallsModel" "RecordCallsModel" "keyAt" "I") ∈ rc_tb := rc_tm4 (List.mem_of_getElem? (i := 91) rfl) rfl
set_option maxRecDepth 20000 in
theorem T_812 : (Jvm.Cond.soleField "RecordCallsModel" "keyAt") ∈ rc_tb := rc_tm4 (List.mem_of_getElem? (i := 92) rfl) rfl
set_option maxRecDepth 20000 in
theorem T_813 : (Jvm.Cond.lays "RecordCallsModel" "RecordCallsModel" "keySize" "I") ∈ rc_tb := rc_tm4 (List.mem_of_getElem? (i := 93) rfl) rfl
set_option maxRecDepth 20000 in
theorem T_814 : (Jvm.Cond.soleField "RecordCallsModel" "keySize") ∈ rc_tb := rc_tm4 (List.mem_of_getElem? (i := 94) rfl) rfl
set_option maxRecDepth 20000 in
theorem T_815 : (Jvm.Cond.laysFinal "RecordCallsModel" "RecordCallsModel" "out" "[B") ∈ rc_tb := rc_tm4 (List.mem_of_getElem? (i := 95) rfl) rfl
set_option maxRecDepth 20000 in
theorem T_816 : (Jvm.Cond.soleField "RecordCallsModel" "out") ∈ rc_tb := rc_tm4 (List.mem_of_getElem? (i := 96) rfl) rfl
set_option maxRecDepth 20000 in
theorem T_817 : (Jvm.Cond.lays "RecordCallsModel" "RecordCallsModel" "outSize" "I") ∈ rc_tb := rc_tm4 (List.mem_of_getElem? (i := 97) rfl) rfl
set_option maxRecDepth 20000 in
theorem T_818 : (Jvm.Cond.soleField "RecordCallsModel" "outSize") ∈ rc_tb := rc_tm4 (List.mem_of_getElem? (i := 98) rfl) rfl
set_option maxRecDepth 20000 in
theorem T_819 : (Jvm.Cond.lays "RecordCallsModel" "RecordCallsModel" "taken" "I") ∈ rc_tb := rc_tm4 (List.mem_of_getElem? (i := 99) rfl) rfl
set_option maxRecDepth 20000 in
theorem T_820 : (Jvm.Cond.soleField "RecordCallsModel" "taken") ∈ rc_tb := rc_tm4 (List.mem_of_getElem? (i := 100) rfl) rfl
set_option maxRecDepth 20000 in
theorem T_821 : (Jvm.Cond.superclass "RecordCallsModel" "java/lang/Object") ∈ rc_tb := rc_tm4 (List.mem_of_getElem? (i := 101) rfl) rfl
set_option maxRecDepth 20000 in
theorem T_822 : (Jvm.Cond.arrayClass Jvm.ClassFile.FieldType.boolean) ∈ rc_tb := rc_tm4 (List.mem_of_getElem? (i := 102) rfl) rfl
set_option maxRecDepth 20000 in
theorem T_823 : (Jvm.Cond.methodLink "RecordCallsLaw" (65 : Nat) ({ cls := "RecordCallsModel", name := "thrown", desc := "()I" } : Jvm.MethodName)) ∈ rc_tb := rc_tm4 (List.mem_of_getElem? (i := 103) rfl) rfl
set_option maxRecDepth 20000 in
theorem T_824 : (Jvm.Cond.instanceMethod ({ cls := "RecordCallsModel", name := "thrown", desc := "()I" } : Jvm.MethodName)) ∈ rc_tb := rc_tm4 (List.mem_of_getElem? (i := 104) rfl) rfl
set_option maxRecDepth 20000 in
theorem T_825 : (Jvm.Cond.selects "RecordCallsModel" ({ cls := "RecordCallsModel", name := "thrown", desc := "()I" } : Jvm.MethodName) ({ cls := "RecordCallsModel", name := "thrown", desc := "()I" } : Jvm.MethodName)) ∈ rc_tb := rc_tm4 (List.mem_of_getElem? (i := 105) rfl) rfl
set_option maxRecDepth 20000 in
theorem T_826 : (Jvm.Cond.code ({ cls := "RecordCallsModel", name := "thrown", desc := "()I" } : Jvm.MethodName) prog_9_method_2_code (1 : Nat) (Option.some Jvm.ClassFile.FieldType.int)) ∈ rc_tb := rc_tm4 (List.mem_of_getElem? (i := 106) rfl) rfl
set_option maxRecDepth 20000 in
theorem T_827 : (Jvm.Cond.methodLink "RecordCallsLaw" (76 : Nat) ({ cls := "RecordCallsModel", name := "raw", desc := "()I" } : Jvm.MethodName)) ∈ rc_tb := rc_tm4 (List.mem_of_getElem? (i := 107) rfl) rfl
set_option maxRecDepth 20000 in
theorem T_828 : (Jvm.Cond.instanceMethod ({ cls := "RecordCallsModel", name := "raw", desc := "()I" } : Jvm.MethodName)) ∈ rc_tb := rc_tm4 (List.mem_of_getElem? (i := 108) rfl) rfl
set_option maxRecDepth 20000 in
theorem T_829 : (Jvm.Cond.selects "RecordCallsModel" ({ cls := "RecordCallsModel", name := "raw", desc := "()I" } : Jvm.MethodName) ({ cls := "RecordCallsModel", name := "raw", desc := "()I" } : Jvm.MethodName)) ∈ rc_tb := rc_tm4 (List.mem_of_getElem? (i := 109) rfl) rfl
set_option maxRecDepth 20000 in
theorem T_830 : (Jvm.Cond.code ({ cls := "RecordCallsModel", name := "raw", desc := "()I" } : Jvm.MethodName) prog_9_method_8_code (3 : Nat) (Option.some Jvm.ClassFile.FieldType.int)) ∈ rc_tb := rc_tm4 (List.mem_of_getElem? (i := 110) rfl) rfl
set_option maxRecDepth 20000 in
theorem T_831 : (Jvm.Cond.methodLink "RecordCallsModel" (89 : Nat) ({ cls := "RecordCallsModel", name := "newSlot", desc := "()I" } : Jvm.MethodName)) ∈ rc_tb := rc_tm4 (List.mem_of_getElem? (i := 111) rfl) rfl
set_option maxRecDepth 20000 in
theorem T_832 : (Jvm.Cond.privateMethod ({ cls := "RecordCallsModel", name := "newSlot", desc := "()I" } : Jvm.MethodName)) ∈ rc_tb := rc_tm4 (List.mem_of_getElem? (i := 112) rfl) rfl
set_option maxRecDepth 20000 in
theorem T_833 : (Jvm.Cond.instanceMethod ({ cls := "RecordCallsModel", name := "newSlot", desc := "()I" } : Jvm.MethodName)) ∈ rc_tb := rc_tm4 (List.mem_of_getElem? (i := 113) rfl) rfl
set_option maxRecDepth 20000 in
theorem T_834 : (Jvm.Cond.code ({ cls := "RecordCallsModel", name := "newSlot", desc := "()I" } : Jvm.MethodName) prog_9_method_5_code (1 : Nat) (Option.some Jvm.ClassFile.FieldType.int)) ∈ rc_tb := rc_tm4 (List.mem_of_getElem? (i := 114) rfl) rfl
set_option maxRecDepth 20000 in
theorem T_835 : (Jvm.Cond.methodLink "RecordCallsModel" (85 : Nat) ({ cls := "RecordCallsModel", name := "slotByte", desc := "(II)V" } : Jvm.MethodName)) ∈ rc_tb := rc_tm4 (List.mem_of_getElem? (i := 115) rfl) rfl
set_option maxRecDepth 20000 in
theorem T_836 : (Jvm.Cond.privateMethod ({ cls := "RecordCallsModel", name := "slotByte", desc := "(II)V" } : Jvm.MethodName)) ∈ rc_tb := rc_tm4 (List.mem_of_getElem? (i := 116) rfl) rfl
set_option maxRecDepth 20000 in
theorem T_837 : (Jvm.Cond.instanceMethod ({ cls := "RecordCallsModel", name := "slotByte", desc := "(II)V" } : Jvm.MethodName)) ∈ rc_tb := rc_tm4 (List.mem_of_getElem? (i := 117) rfl) rfl
set_option maxRecDepth 20000 in
theorem T_838 : (Jvm.Cond.code ({ cls := "RecordCallsModel", name := "slotByte", desc := "(II)V" } : Jvm.MethodName) prog_9_method_6_code (3 : Nat) (Option.none : Option Jvm.ClassFile.FieldType)) ∈ rc_tb := rc_tm4 (List.mem_of_getElem? (i := 118) rfl) rfl
set_option maxRecDepth 20000 in
theorem T_839 : (Jvm.Cond.methodLink "RecordCallsModel" (81 : Nat) ({ cls := "RecordCallsModel", name := "base", desc := "(I)I" } : Jvm.MethodName)) ∈ rc_tb := rc_tm4 (List.mem_of_getElem? (i := 119) rfl) rfl
set_option maxRecDepth 20000 in
theorem T_840 : (Jvm.Cond.static ({ cls := "RecordCallsModel", name := "base", desc := "(I)I" } : Jvm.MethodName)) ∈ rc_tb := rc_tm4 (List.mem_of_getElem? (i := 120) rfl) rfl
set_option maxRecDepth 20000 in
theorem T_841 : (Jvm.Cond.code ({ cls := "RecordCallsModel", name := "base", desc := "(I)I" } : Jvm.MethodName) prog_9_method_4_code (1 : Nat) (Option.some Jvm.ClassFile.FieldType.int)) ∈ rc_tb := rc_tm4 (List.mem_of_getElem? (i := 121) rfl) rfl
set_option maxRecDepth 20000 in
theorem T_842 : (Jvm.Cond.methodLink "RecordCallsLaw" (80 : Nat) ({ cls := "RecordCallsModel", name := "record", desc := "(I)I" } : Jvm.MethodName)) ∈ rc_tb := rc_tm4 (List.mem_of_getElem? (i := 122) rfl) rfl
set_option maxRecDepth 20000 in
theorem T_843 : (Jvm.Cond.instanceMethod ({ cls := "RecordCallsModel", name := "record", desc := "(I)I" } : Jvm.MethodName)) ∈ rc_tb := rc_tm4 (List.mem_of_getElem? (i := 123) rfl) rfl
set_option maxRecDepth 20000 in
theorem T_844 : (Jvm.Cond.selects "RecordCallsModel" ({ cls := "RecordCallsModel", name := "record", desc := "(I)I" } : Jvm.MethodName) ({ cls := "RecordCallsModel", name := "record", desc := "(I)I" } : Jvm.MethodName)) ∈ rc_tb := rc_tm4 (List.mem_of_getElem? (i := 124) rfl) rfl
set_option maxRecDepth 20000 in
theorem T_845 : (Jvm.Cond.code ({ cls := "RecordCallsModel", name := "record", desc := "(I)I" } : Jvm.MethodName) prog_9_method_9_code (9 : Nat) (Option.some Jvm.ClassFile.FieldType.int)) ∈ rc_tb := rc_tm4 (List.mem_of_getElem? (i := 125) rfl) rfl
set_option maxRecDepth 20000 in
theorem T_846 : (Jvm.Cond.constant "RecordCallsModel" (96 : Nat) (2147483647 : Int32)) ∈ rc_tb := rc_tm4 (List.mem_of_getElem? (i := 126) rfl) rfl
set_option maxRecDepth 20000 in
theorem T_847 : (Jvm.Cond.methodLink "RecordCallsModel" (97 : Nat) ({ cls := "RecordCallsModel", name := "slotWord", desc := "(II)V" } : Jvm.MethodName)) ∈ rc_tb := rc_tm4 (List.mem_of_getElem? (i := 127) rfl) rfl
set_option maxRecDepth 20000 in
theorem T_848 : (Jvm.Cond.privateMethod ({ cls := "RecordCallsModel", name := "slotWord", desc := "(II)V" } : Jvm.MethodName)) ∈ rc_tb := rc_tm4 (List.mem_of_getElem? (i := 128) rfl) rfl
set_option maxRecDepth 20000 in
theorem T_849 : (Jvm.Cond.instanceMethod ({ cls := "RecordCallsModel", name := "slotWord", desc := "(II)V" } : Jvm.MethodName)) ∈ rc_tb := rc_tm4 (List.mem_of_getElem? (i := 129) rfl) rfl
set_option maxRecDepth 20000 in
theorem T_850 : (Jvm.Cond.code ({ cls := "RecordCallsModel", name := "slotWord", desc := "(II)V" } : Jvm.MethodName) prog_9_method_7_code (4 : Nat) (Option.none : Option Jvm.ClassFile.FieldType)) ∈ rc_tb := rc_tm4 (List.mem_of_getElem? (i := 130) rfl) rfl
set_option maxRecDepth 20000 in
theorem T_851 : (Jvm.Cond.methodLink "RecordCallsLaw" (86 : Nat) ({ cls := "RecordCallsModel", name := "call", desc := "(IIIZJ)I" } : Jvm.MethodName)) ∈ rc_tb := rc_tm4 (List.mem_of_getElem? (i := 131) rfl) rfl
set_option maxRecDepth 20000 in
theorem T_852 : (Jvm.Cond.instanceMethod ({ cls := "RecordCallsModel", name := "call", desc := "(IIIZJ)I" } : Jvm.MethodName)) ∈ rc_tb := rc_tm4 (List.mem_of_getElem? (i := 132) rfl) rfl
set_option maxRecDepth 20000 in
theorem T_853 : (Jvm.Cond.selects "RecordCallsModel" ({ cls := "RecordCallsModel", name := "call", desc := "(IIIZJ)I" } : Jvm.MethodName) ({ cls := "RecordCallsModel", name := "call", desc := "(IIIZJ)I" } : Jvm.MethodName)) ∈ rc_tb := rc_tm4 (List.mem_of_getElem? (i := 133) rfl) rfl
set_option maxRecDepth 20000 in
theorem T_854 : (Jvm.Cond.code ({ cls := "RecordCallsModel", name := "call", desc := "(IIIZJ)I" } : Jvm.MethodName) prog_9_method_10_code (10 : Nat) (Option.some Jvm.ClassFile.FieldType.int)) ∈ rc_tb := rc_tm4 (List.mem_of_getElem? (i := 134) rfl) rfl
set_option maxRecDepth 20000 in
theorem T_855 : (Jvm.Cond.constant "RecordCallsModel" (100 : Nat) (400100 : Int32)) ∈ rc_tb := rc_tm4 (List.mem_of_getElem? (i := 135) rfl) rfl
set_option maxRecDepth 20000 in
theorem T_856 : (Jvm.Cond.methodLink "RecordCallsLaw" (90 : Nat) ({ cls := "RecordCallsModel", name := "push", desc := "(IIII)I" } : Jvm.MethodName)) ∈ rc_tb := rc_tm4 (List.mem_of_getElem? (i := 136) rfl) rfl
set_option maxRecDepth 20000 in
theorem T_857 : (Jvm.Cond.instanceMethod ({ cls := "RecordCallsModel", name := "push", desc := "(IIII)I" } : Jvm.MethodName)) ∈ rc_tb := rc_tm4 (List.mem_of_getElem? (i := 137) rfl) rfl
set_option maxRecDepth 20000 in
theorem T_858 : (Jvm.Cond.selects "RecordCallsModel" ({ cls := "RecordCallsModel", name := "push", desc := "(IIII)I" } : Jvm.MethodName) ({ cls := "RecordCallsModel", name := "push", desc := "(IIII)I" } : Jvm.MethodName)) ∈ rc_tb := rc_tm4 (List.mem_of_getElem? (i := 138) rfl) rfl
set_option maxRecDepth 20000 in
theorem T_859 : (Jvm.Cond.code ({ cls := "RecordCallsModel", name := "push", desc := "(IIII)I" } : Jvm.MethodName) prog_9_method_11_code (8 : Nat) (Option.some Jvm.ClassFile.FieldType.int)) ∈ rc_tb := rc_tm4 (List.mem_of_getElem? (i := 139) rfl) rfl
set_option maxRecDepth 20000 in
theorem T_860 : (Jvm.Cond.methodLink "RecordCallsModel" (101 : Nat) ({ cls := "RecordCallsModel", name := "isSlot", desc := "(I)Z" } : Jvm.MethodName)) ∈ rc_tb := rc_tm4 (List.mem_of_getElem? (i := 140) rfl) rfl
set_option maxRecDepth 20000 in
theorem T_861 : (Jvm.Cond.privateMethod ({ cls := "RecordCallsModel", name := "isSlot", desc := "(I)Z" } : Jvm.MethodName)) ∈ rc_tb := rc_tm4 (List.mem_of_getElem? (i := 141) rfl) rfl
set_option maxRecDepth 20000 in
theorem T_862 : (Jvm.Cond.instanceMethod ({ cls := "RecordCallsModel", name := "isSlot", desc := "(I)Z" } : Jvm.MethodName)) ∈ rc_tb := rc_tm4 (List.mem_of_getElem? (i := 142) rfl) rfl
set_option maxRecDepth 20000 in
theorem T_863 : (Jvm.Cond.code ({ cls := "RecordCallsModel", name := "isSlot", desc := "(I)Z" } : Jvm.MethodName) prog_9_method_3_code (2 : Nat) (Option.some Jvm.ClassFile.FieldType.boolean)) ∈ rc_tb := rc_tm4 (List.mem_of_getElem? (i := 143) rfl) rfl
set_option maxRecDepth 20000 in
theorem T_864 : (Jvm.Cond.methodLink "RecordCallsModel" (105 : Nat) ({ cls := "RecordCallsModel", name := "take", desc := "(II)Z" } : Jvm.MethodName)) ∈ rc_tb := rc_tm4 (List.mem_of_getElem? (i := 144) rfl) rfl
set_option maxRecDepth 20000 in
theorem T_865 : (Jvm.Cond.privateMethod ({ cls := "RecordCallsModel", name := "take", desc := "(II)Z" } : Jvm.MethodName)) ∈ rc_tb := rc_tm4 (List.mem_of_getElem? (i := 145) rfl) rfl
set_option maxRecDepth 20000 in
theorem T_866 : (Jvm.Cond.instanceMethod ({ cls := "RecordCallsModel", name := "take", desc := "(II)Z" } : Jvm.MethodName)) ∈ rc_tb := rc_tm4 (List.mem_of_getElem? (i := 146) rfl) rfl
set_option maxRecDepth 20000 in
theorem T_867 : (Jvm.Cond.code ({ cls := "RecordCallsModel", name := "take", desc := "(II)Z" } : Jvm.MethodName) prog_9_method_12_code (3 : Nat) (Option.some Jvm.ClassFile.FieldType.boolean)) ∈ rc_tb := rc_tm4 (List.mem_of_getElem? (i := 147) rfl) rfl
set_option maxRecDepth 20000 in
theorem T_868 : (Jvm.Cond.methodLink "RecordCallsModel" (112 : Nat) ({ cls := "RecordCallsModel", name := "serve", desc := "()Z" } : Jvm.MethodName)) ∈ rc_tb := rc_tm4 (List.mem_of_getElem? (i := 148) rfl) rfl
set_option maxRecDepth 20000 in
theorem T_869 : (Jvm.Cond.privateMethod ({ cls := "RecordCallsModel", name := "serve", desc := "()Z" } : Jvm.MethodName)) ∈ rc_tb := rc_tm4 (List.mem_of_getElem? (i := 149) rfl) rfl
set_option maxRecDepth 20000 in
theorem T_870 : (Jvm.Cond.instanceMethod ({ cls := "RecordCallsModel", name := "serve", desc := "()Z" } : Jvm.MethodName)) ∈ rc_tb := rc_tm4 (List.mem_of_getElem? (i := 150) rfl) rfl
set_option maxRecDepth 20000 in
theorem T_871 : (Jvm.Cond.code ({ cls := "RecordCallsModel", name := "serve", desc := "()Z" } : Jvm.MethodName) prog_9_method_21_code (4 : Nat) (Option.some Jvm.ClassFile.FieldType.boolean)) ∈ rc_tb := rc_tm4 (List.mem_of_getElem? (i := 151) rfl) rfl
set_option maxRecDepth 20000 in
theorem T_872 : (Jvm.Cond.methodLink "RecordCallsModel" (126 : Nat) ({ cls := "RecordCallsModel", name := "recordWord", desc := "(I)I" } : Jvm.MethodName)) ∈ rc_tb := rc_tm4 (List.mem_of_getElem? (i := 152) rfl) rfl
set_option maxRecDepth 20000 in
theorem T_873 : (Jvm.Cond.privateMethod ({ cls := "RecordCallsModel", name := "recordWord", desc := "(I)I" } : Jvm.MethodName)) ∈ rc_tb := rc_tm4 (List.mem_of_getElem? (i := 153) rfl) rfl
set_option maxRecDepth 20000 in
theorem T_874 : (Jvm.Cond.instanceMethod ({ cls := "RecordCallsModel", name := "recordWord", desc := "(I)I" } : Jvm.MethodName)) ∈ rc_tb := rc_tm4 (List.mem_of_getElem? (i := 154) rfl) rfl
set_option maxRecDepth 20000 in
theorem T_875 : (Jvm.Cond.code ({ cls := "RecordCallsModel", name := "recordWord", desc := "(I)I" } : Jvm.MethodName) prog_9_method_14_code (4 : Nat) (Option.some Jvm.ClassFile.FieldType.int)) ∈ rc_tb := rc_tm4 (List.mem_of_getElem? (i := 155) rfl) rfl
set_option maxRecDepth 20000 in
theorem T_876 : (Jvm.Cond.methodLink "RecordCallsModel" (153 : Nat) ({ cls := "RecordCallsModel", name := "send", desc := "(I)V" } : Jvm.MethodName)) ∈ rc_tb := rc_tm4 (List.mem_of_getElem? (i := 156) rfl) rfl
set_option maxRecDepth 20000 in
theorem T_877 : (Jvm.Cond.privateMethod ({ cls := "RecordCallsModel", name := "send", desc := "(I)V" } : Jvm.MethodName)) ∈ rc_tb := rc_tm4 (List.mem_of_getElem? (i := 157) rfl) rfl
set_option maxRecDepth 20000 in
theorem T_878 : (Jvm.Cond.instanceMethod ({ cls := "RecordCallsModel", name := "send", desc := "(I)V" } : Jvm.MethodName)) ∈ rc_tb := rc_tm4 (List.mem_of_getElem? (i := 158) rfl) rfl
set_option maxRecDepth 20000 in
theorem T_879 : (Jvm.Cond.code ({ cls := "RecordCallsModel", name := "send", desc := "(I)V" } : Jvm.MethodName) prog_9_method_23_code (4 : Nat) (Option.none : Option Jvm.ClassFile.FieldType)) ∈ rc_tb := rc_tm4 (List.mem_of_getElem? (i := 159) rfl) rfl
set_option maxRecDepth 20000 in
theorem T_880 : (Jvm.Cond.methodLink "RecordCallsModel" (156 : Nat) ({ cls := "RecordCallsModel", name := "judge", desc := "(I)Z" } : Jvm.MethodName)) ∈ rc_tb := rc_tm4 (List.mem_of_getElem? (i := 160) rfl) rfl
set_option maxRecDepth 20000 in
theorem T_881 : (Jvm.Cond.privateMethod ({ cls := "RecordCallsModel", name := "judge", desc := "(I)Z" } : Jvm.MethodName)) ∈ rc_tb := rc_tm4 (List.mem_of_getElem? (i := 161) rfl) rfl
set_option maxRecDepth 20000 in
theorem T_882 : (Jvm.Cond.instanceMethod ({ cls := "RecordCallsModel", name := "judge", desc := "(I)Z" } : Jvm.MethodName)) ∈ rc_tb := rc_tm4 (List.mem_of_getElem? (i := 162) rfl) rfl
set_option maxRecDepth 20000 in
theorem T_883 : (Jvm.Cond.code ({ cls := "RecordCallsModel", name := "judge", desc := "(I)Z" } : Jvm.MethodName) prog_9_method_26_code (10 : Nat) (Option.some Jvm.ClassFile.FieldType.boolean)) ∈ rc_tb := rc_tm4 (List.mem_of_getElem? (i := 163) rfl) rfl
set_option maxRecDepth 20000 in
theorem T_884 : (Jvm.Cond.methodLink "RecordCallsModel" (129 : Nat) ({ cls := "RecordCallsModel", name := "nextWord", desc := "()I" } : Jvm.MethodName)) ∈ rc_tb := rc_tm4 (List.mem_of_getElem? (i := 164) rfl) rfl
set_option maxRecDepth 20000 in
theorem T_885 : (Jvm.Cond.privateMethod ({ cls := "RecordCallsModel", name := "nextWord", desc := "()I" } : Jvm.MethodName)) ∈ rc_tb := rc_tm4 (List.mem_of_getElem? (i := 165) rfl) rfl
set_option maxRecDepth 20000 in
theorem T_886 : (Jvm.Cond.instanceMethod ({ cls := "RecordCallsModel", name := "nextWord", desc := "()I" } : Jvm.MethodName)) ∈ rc_tb := rc_tm4 (List.mem_of_getElem? (i := 166) rfl) rfl
set_option maxRecDepth 20000 in
theorem T_887 : (Jvm.Cond.code ({ cls := "RecordCallsModel", name := "nextWord", desc := "()I" } : Jvm.MethodName) prog_9_method_16_code (1 : Nat) (Option.some Jvm.ClassFile.FieldType.int)) ∈ rc_tb := rc_tm4 (List.mem_of_getElem? (i := 167) rfl) rfl
set_option maxRecDepth 20000 in
theorem T_888 : (Jvm.Cond.methodLink "RecordCallsModel" (123 : Nat) ({ cls := "RecordCallsModel", name := "hasBytes", desc := "(I)Z" } : Jvm.MethodName)) ∈ rc_tb := rc_tm4 (List.mem_of_getElem? (i := 168) rfl) rfl
set_option maxRecDepth 20000 in
theorem T_889 : (Jvm.Cond.privateMethod ({ cls := "RecordCallsModel", name := "hasBytes", desc := "(I)Z" } : Jvm.MethodName)) ∈ rc_tb := rc_tm4 (List.mem_of_getElem? (i := 169) rfl) rfl
set_option maxRecDepth 20000 in
theorem T_890 : (Jvm.Cond.instanceMethod ({ cls := "RecordCallsModel", name := "hasBytes", desc := "(I)Z" } : Jvm.MethodName)) ∈ rc_tb := rc_tm4 (List.mem_of_getElem? (i := 170) rfl) rfl
set_option maxRecDepth 20000 in
theorem T_891 : (Jvm.Cond.code ({ cls := "RecordCallsModel", name := "hasBytes", desc := "(I)Z" } : Jvm.MethodName) prog_9_method_15_code (2 : Nat) (Option.some Jvm.ClassFile.FieldType.boolean)) ∈ rc_tb := rc_tm4 (List.mem_of_getElem? (i := 171) rfl) rfl
set_option maxRecDepth 20000 in
theorem T_892 : (Jvm.Cond.methodLink "RecordCallsModel" (162 : Nat) ({ cls := "RecordCallsModel", name := "refuse", desc := "(III)Z" } : Jvm.MethodName)) ∈ rc_tb := rc_tm4 (List.mem_of_getElem? (i := 172) rfl) rfl
set_option maxRecDepth 20000 in
theorem T_893 : (Jvm.Cond.privateMethod ({ cls := "RecordCallsModel", name := "refuse", desc := "(III)Z" } : Jvm.MethodName)) ∈ rc_tb := rc_tm4 (List.mem_of_getElem? (i := 173) rfl) rfl
set_option maxRecDepth 20000 in
theorem T_894 : (Jvm.Cond.instanceMethod ({ cls := "RecordCallsModel", name := "refuse", desc := "(III)Z" } : Jvm.MethodName)) ∈ rc_tb := rc_tm4 (List.mem_of_getElem? (i := 174) rfl) rfl
set_option maxRecDepth 20000 in
theorem T_895 : (Jvm.Cond.code ({ cls := "RecordCallsModel", name := "refuse", desc := "(III)Z" } : Jvm.MethodName) prog_9_method_24_code (4 : Nat) (Option.some Jvm.ClassFile.FieldType.boolean)) ∈ rc_tb := rc_tm4 (List.mem_of_getElem? (i := 175) rfl) rfl
set_option maxRecDepth 20000 in
theorem T_896 : (Jvm.Cond.methodLink "RecordCallsModel" (143 : Nat) ({ cls := "RecordCallsModel", name := "outWord", desc := "(I)V" } : Jvm.MethodName)) ∈ rc_tb := rc_tm4 (List.mem_of_getElem? (i := 176) rfl) rfl
set_option maxRecDepth 20000 in
theorem T_897 : (Jvm.Cond.privateMethod ({ cls := "RecordCallsModel", name := "outWord", desc := "(I)V" } : Jvm.MethodName)) ∈ rc_tb := rc_tm4 (List.mem_of_getElem? (i := 177) rfl) rfl
set_option maxRecDepth 20000 in
theorem T_898 : (Jvm.Cond.instanceMethod ({ cls := "RecordCallsModel", name := "outWord", desc := "(I)V" } : Jvm.MethodName)) ∈ rc_tb := rc_tm4 (List.mem_of_getElem? (i := 178) rfl) rfl
set_option maxRecDepth 20000 in
theorem T_899 : (Jvm.Cond.code ({ cls := "RecordCallsModel", name := "outWord", desc := "(I)V" } : Jvm.MethodName) prog_9_method_19_code (3 : Nat) (Option.none : Option Jvm.ClassFile.FieldType)) ∈ rc_tb := rc_tm4 (List.mem_of_getElem? (i := 179) rfl) rfl
set_option maxRecDepth 20000 in
theorem T_900 : (Jvm.Cond.methodLink "RecordCallsModel" (166 : Nat) ({ cls := "RecordCallsModel", name := "nextBytes", desc := "(I)I" } : Jvm.MethodName)) ∈ rc_tb := rc_tm4 (List.mem_of_getElem? (i := 180) rfl) rfl
set_option maxRecDepth 20000 in
theorem T_901 : (Jvm.Cond.privateMethod ({ cls := "RecordCallsModel", name := "nextBytes", desc := "(I)I" } : Jvm.MethodName)) ∈ rc_tb := rc_tm4 (List.mem_of_getElem? (i := 181) rfl) rfl
set_option maxRecDepth 20000 in
theorem T_902 : (Jvm.Cond.instanceMethod ({ cls := "RecordCallsModel", name := "nextBytes", desc := "(I)I" } : Jvm.MethodName)) ∈ rc_tb := rc_tm4 (List.mem_of_getElem? (i := 182) rfl) rfl
set_option maxRecDepth 20000 in
theorem T_903 : (Jvm.Cond.code ({ cls := "RecordCallsModel", name := "nextBytes", desc := "(I)I" } : Jvm.MethodName) prog_9_method_18_code (5 : Nat) (Option.some Jvm.ClassFile.FieldType.int)) ∈ rc_tb := rc_tm4 (List.mem_of_getElem? (i := 183) rfl) rfl
set_option maxRecDepth 20000 in
theorem T_904 : (Jvm.Cond.methodLink "RecordCallsModel" (169 : Nat) ({ cls := "RecordCallsModel", name := "accept", desc := "(II)Z" } : Jvm.MethodName)) ∈ rc_tb := rc_tm4 (List.mem_of_getElem? (i := 184) rfl) rfl
set_option maxRecDepth 20000 in
theorem T_905 : (Jvm.Cond.privateMethod ({ cls := "RecordCallsModel", name := "accept", desc := "(II)Z" } : Jvm.MethodName)) ∈ rc_tb := rc_tm4 (List.mem_of_getElem? (i := 185) rfl) rfl
set_option maxRecDepth 20000 in
theorem T_906 : (Jvm.Cond.instanceMethod ({ cls := "RecordCallsModel", name := "accept", desc := "(II)Z" } : Jvm.MethodName)) ∈ rc_tb := rc_tm4 (List.mem_of_getElem? (i := 186) rfl) rfl
set_option maxRecDepth 20000 in
theorem T_907 : (Jvm.Cond.code ({ cls := "RecordCallsModel", name := "accept", desc := "(II)Z" } : Jvm.MethodName) prog_9_method_25_code (3 : Nat) (Option.some Jvm.ClassFile.FieldType.boolean)) ∈ rc_tb := rc_tm4 (List.mem_of_getElem? (i := 187) rfl) rfl
set_option maxRecDepth 20000 in
theorem T_908 : (Jvm.Cond.methodLink "RecordCallsModel" (172 : Nat) ({ cls := "RecordCallsModel", name := "takes", desc := "(I)Z" } : Jvm.MethodName)) ∈ rc_tb := rc_tm4 (List.mem_of_getElem? (i := 188) rfl) rfl
set_option maxRecDepth 20000 in
theorem T_909 : (Jvm.Cond.privateMethod ({ cls := "RecordCallsModel", name := "takes", desc := "(I)Z" } : Jvm.MethodName)) ∈ rc_tb := rc_tm4 (List.mem_of_getElem? (i := 189) rfl) rfl
set_option maxRecDepth 20000 in
theorem T_910 : (Jvm.Cond.instanceMethod ({ cls := "RecordCallsModel", name := "takes", desc := "(I)Z" } : Jvm.MethodName)) ∈ rc_tb := rc_tm4 (List.mem_of_getElem? (i := 190) rfl) rfl
set_option maxRecDepth 20000 in
theorem T_911 : (Jvm.Cond.code ({ cls := "RecordCallsModel", name := "takes", desc := "(I)Z" } : Jvm.MethodName) prog_9_method_27_code (4 : Nat) (Option.some Jvm.ClassFile.FieldType.boolean)) ∈ rc_tb := rc_tm4 (List.mem_of_getElem? (i := 191) rfl) rfl
set_option maxRecDepth 20000 in
theorem T_912 : (Jvm.Cond.methodLink "RecordCallsModel" (184 : Nat) ({ cls := "RecordCallsModel", name := "nextLong", desc := "()J" } : Jvm.MethodName)) ∈ rc_tb := rc_tm4 (List.mem_of_getElem? (i := 192) rfl) rfl
set_option maxRecDepth 20000 in
theorem T_913 : (Jvm.Cond.privateMethod ({ cls := "RecordCallsModel", name := "nextLong", desc := "()J" } : Jvm.MethodName)) ∈ rc_tb := rc_tm4 (List.mem_of_getElem? (i := 193) rfl) rfl
set_option maxRecDepth 20000 in
theorem T_914 : (Jvm.Cond.instanceMethod ({ cls := "RecordCallsModel", name := "nextLong", desc := "()J" } : Jvm.MethodName)) ∈ rc_tb := rc_tm4 (List.mem_of_getElem? (i := 194) rfl) rfl
set_option maxRecDepth 20000 in
theorem T_915 : (Jvm.Cond.code ({ cls := "RecordCallsModel", name := "nextLong", desc := "()J" } : Jvm.MethodName) prog_9_method_17_code (5 : Nat) (Option.some Jvm.ClassFile.FieldType.long)) ∈ rc_tb := rc_tm4 (List.mem_of_getElem? (i := 195) rfl) rfl
set_option maxRecDepth 20000 in
theorem T_916 : (Jvm.Cond.constantLong "RecordCallsModel" (132 : Nat) (4294967295 : Int64)) ∈ rc_tb := rc_tm4 (List.mem_of_getElem? (i := 196) rfl) rfl
set_option maxRecDepth 20000 in
theorem T_917 : (Jvm.Cond.methodLink "RecordCallsModel" (178 : Nat) ({ cls := "RecordCallsModel", name := "run", desc := "(I)V" } : Jvm.MethodName)) ∈ rc_tb := rc_tm4 (List.mem_of_getElem? (i := 197) rfl) rfl
set_option maxRecDepth 20000 in
theorem T_918 : (Jvm.Cond.privateMethod ({ cls := "RecordCallsModel", name := "run", desc := "(I)V" } : Jvm.MethodName)) ∈ rc_tb := rc_tm4 (List.mem_of_getElem? (i := 198) rfl) rfl
set_option maxRecDepth 20000 in
theorem T_919 : (Jvm.Cond.instanceMethod ({ cls := "RecordCallsModel", name := "run", desc := "(I)V" } : Jvm.MethodName)) ∈ rc_tb := rc_tm4 (List.mem_of_getElem? (i := 199) rfl) rfl
set_option maxRecDepth 20000 in
theorem T_920 : (Jvm.Cond.code ({ cls := "RecordCallsModel", name := "run", desc := "(I)V" } : Jvm.MethodName) prog_9_method_29_code (3 : Nat) (Option.none : Option Jvm.ClassFile.FieldType)) ∈ rc_tb := rc_tm4 (List.mem_of_getElem? (i := 200) rfl) rfl
set_option maxRecDepth 20000 in
theorem T_921 : (Jvm.Cond.methodLink "RecordCallsModel" (191 : Nat) ({ cls := "RecordCallsModel", name := "runSum", desc := "()V" } : Jvm.MethodName)) ∈ rc_tb := rc_tm4 (List.mem_of_getElem? (i := 201) rfl) rfl
set_option maxRecDepth 20000 in
theorem T_922 : (Jvm.Cond.privateMethod ({ cls := "RecordCallsModel", name := "runSum", desc := "()V" } : Jvm.MethodName)) ∈ rc_tb := rc_tm4 (List.mem_of_getElem? (i := 202) rfl) rfl
set_option maxRecDepth 20000 in
theorem T_923 : (Jvm.Cond.instanceMethod ({ cls := "RecordCallsModel", name := "runSum", desc := "()V" } : Jvm.MethodName)) ∈ rc_tb := rc_tm4 (List.mem_of_getElem? (i := 203) rfl) rfl
set_option maxRecDepth 20000 in
theorem T_924 : (Jvm.Cond.code ({ cls := "RecordCallsModel", name := "runSum", desc := "()V" } : Jvm.MethodName) prog_9_method_32_code (7 : Nat) (Option.none : Option Jvm.ClassFile.FieldType)) ∈ rc_tb := rc_tm4 (List.mem_of_getElem? (i := 204) rfl) rfl
set_option maxRecDepth 20000 in
theorem T_925 : (Jvm.Cond.methodLink "RecordCallsModel" (197 : Nat) ({ cls := "RecordCallsModel", name := "place", desc := "()I" } : Jvm.MethodName)) ∈ rc_tb := rc_tm4 (List.mem_of_getElem? (i := 205) rfl) rfl
set_option maxRecDepth 20000 in
theorem T_926 : (Jvm.Cond.privateMethod ({ cls := "RecordCallsModel", name := "place", desc := "()I" } : Jvm.MethodName)) ∈ rc_tb := rc_tm4 (List.mem_of_getElem? (i := 206) rfl) rfl
set_option maxRecDepth 20000 in
theorem T_927 : (Jvm.Cond.instanceMethod ({ cls := "RecordCallsModel", name := "place", desc := "()I" } : Jvm.MethodName)) ∈ rc_tb := rc_tm4 (List.mem_of_getElem? (i := 207) rfl) rfl
set_option maxRecDepth 20000 in
theorem T_928 : (Jvm.Cond.code ({ cls := "RecordCallsModel", name := "place", desc := "()I" } : Jvm.MethodName) prog_9_method_28_code (4 : Nat) (Option.some Jvm.ClassFile.FieldType.int)) ∈ rc_tb := rc_tm4 (List.mem_of_getElem? (i := 208) rfl) rfl
set_option maxRecDepth 20000 in
theorem T_929 : (Jvm.Cond.methodLink "RecordCallsModel" (207 : Nat) ({ cls := "RecordCallsModel", name := "outLong", desc := "(J)V" } : Jvm.MethodName)) ∈ rc_tb := rc_tm4 (List.mem_of_getElem? (i := 209) rfl) rfl
set_option maxRecDepth 20000 in
theorem T_930 : (Jvm.Cond.privateMethod ({ cls := "RecordCallsModel", name := "outLong", desc := "(J)V" } : Jvm.MethodName)) ∈ rc_tb := rc_tm4 (List.mem_of_getElem? (i := 210) rfl) rfl
set_option maxRecDepth 20000 in
theorem T_931 : (Jvm.Cond.instanceMethod ({ cls := "RecordCallsModel", name := "outLong", desc := "(J)V" } : Jvm.MethodName)) ∈ rc_tb := rc_tm4 (List.mem_of_getElem? (i := 211) rfl) rfl
set_option maxRecDepth 20000 in
theorem T_932 : (Jvm.Cond.code ({ cls := "RecordCallsModel", name := "outLong", desc := "(J)V" } : Jvm.MethodName) prog_9_method_20_code (3 : Nat) (Option.none : Option Jvm.ClassFile.FieldType)) ∈ rc_tb := rc_tm4 (List.mem_of_getElem? (i := 212) rfl) rfl
set_option maxRecDepth 20000 in
theorem T_933 : (Jvm.Cond.methodLink "RecordCallsModel" (194 : Nat) ({ cls := "RecordCallsModel", name := "runList", desc := "()V" } : Jvm.MethodName)) ∈ rc_tb := rc_tm4 (List.mem_of_getElem? (i := 213) rfl) rfl
set_option maxRecDepth 20000 in
theorem T_934 : (Jvm.Cond.privateMethod ({ cls := "RecordCallsModel", name := "runList", desc := "()V" } : Jvm.MethodName)) ∈ rc_tb := rc_tm4 (List.mem_of_getElem? (i := 214) rfl) rfl
set_option maxRecDepth 20000 in
theorem T_935 : (Jvm.Cond.instanceMethod ({ cls := "RecordCallsModel", name := "runList", desc := "()V" } : Jvm.MethodName)) ∈ rc_tb := rc_tm4 (List.mem_of_getElem? (i := 215) rfl) rfl
set_option maxRecDepth 20000 in
theorem T_936 : (Jvm.Cond.code ({ cls := "RecordCallsModel", name := "runList", desc := "()V" } : Jvm.MethodName) prog_9_method_33_code (11 : Nat) (Option.none : Option Jvm.ClassFile.FieldType)) ∈ rc_tb := rc_tm4 (List.mem_of_getElem? (i := 216) rfl) rfl
set_option maxRecDepth 20000 in
theorem T_937 : (Jvm.Cond.methodLink "RecordCallsModel" (200 : Nat) ({ cls := "RecordCallsModel", name := "runPut", desc := "(IJ)V" } : Jvm.MethodName)) ∈ rc_tb := rc_tm4 (List.mem_of_getElem? (i := 217) rfl) rfl
set_option maxRecDepth 20000 in
theorem T_938 : (Jvm.Cond.privateMethod ({ cls := "RecordCallsModel", name := "runPut", desc := "(IJ)V" } : Jvm.MethodName)) ∈ rc_tb := rc_tm4 (List.mem_of_getElem? (i := 218) rfl) rfl
set_option maxRecDepth 20000 in
theorem T_939 : (Jvm.Cond.instanceMethod ({ cls := "RecordCallsModel", name := "runPut", desc := "(IJ)V" } : Jvm.MethodName)) ∈ rc_tb := rc_tm4 (List.mem_of_getElem? (i := 219) rfl) rfl
set_option maxRecDepth 20000 in
theorem T_940 : (Jvm.Cond.code ({ cls := "RecordCallsModel", name := "runPut", desc := "(IJ)V" } : Jvm.MethodName) prog_9_method_30_code (5 : Nat) (Option.none : Option Jvm.ClassFile.FieldType)) ∈ rc_tb := rc_tm4 (List.mem_of_getElem? (i := 220) rfl) rfl
set_option maxRecDepth 20000 in
theorem T_941 : (Jvm.Cond.methodLink "RecordCallsModel" (204 : Nat) ({ cls := "RecordCallsModel", name := "remove", desc := "(I)V" } : Jvm.MethodName)) ∈ rc_tb := rc_tm4 (List.mem_of_getElem? (i := 221) rfl) rfl
set_option maxRecDepth 20000 in
theorem T_942 : (Jvm.Cond.privateMethod ({ cls := "RecordCallsModel", name := "remove", desc := "(I)V" } : Jvm.MethodName)) ∈ rc_tb := rc_tm4 (List.mem_of_getElem? (i := 222) rfl) rfl
set_option maxRecDepth 20000 in
theorem T_943 : (Jvm.Cond.instanceMethod ({ cls := "RecordCallsModel", name := "remove", desc := "(I)V" } : Jvm.MethodName)) ∈ rc_tb := rc_tm4 (List.mem_of_getElem? (i := 223) rfl) rfl
set_option maxRecDepth 20000 in
theorem T_944 : (Jvm.Cond.code ({ cls := "RecordCallsModel", name := "remove", desc := "(I)V" } : Jvm.MethodName) prog_9_method_31_code (4 : Nat) (Option.none : Option Jvm.ClassFile.FieldType)) ∈ rc_tb := rc_tm4 (List.mem_of_getElem? (i := 224) rfl) rfl
set_option maxRecDepth 20000 in
theorem T_945 : (Jvm.Cond.methodLink "RecordCallsModel" (159 : Nat) ({ cls := "RecordCallsModel", name := "keep", desc := "(II)V" } : Jvm.MethodName)) ∈ rc_tb := rc_tm4 (List.mem_of_getElem? (i := 225) rfl) rfl
set_option maxRecDepth 20000 in
theorem T_946 : (Jvm.Cond.privateMethod ({ cls := "RecordCallsModel", name := "keep", desc := "(II)V" } : Jvm.MethodName)) ∈ rc_tb := rc_tm4 (List.mem_of_getElem? (i := 226) rfl) rfl
set_option maxRecDepth 20000 in
theorem T_947 : (Jvm.Cond.instanceMethod ({ cls := "RecordCallsModel", name := "keep", desc := "(II)V" } : Jvm.MethodName)) ∈ rc_tb := rc_tm4 (List.mem_of_getElem? (i := 227) rfl) rfl
set_option maxRecDepth 20000 in
theorem T_948 : (Jvm.Cond.code ({ cls := "RecordCallsModel", name := "keep", desc := "(II)V" } : Jvm.MethodName) prog_9_method_22_code (5 : Nat) (Option.none : Option Jvm.ClassFile.FieldType)) ∈ rc_tb := rc_tm4 (List.mem_of_getElem? (i := 228) rfl) rfl
set_option maxRecDepth 20000 in
theorem T_949 : (Jvm.Cond.methodLink "RecordCallsLaw" (93 : Nat) ({ cls := "RecordCallsModel", name := "open", desc := "(I)Z" } : Jvm.MethodName)) ∈ rc_tb := rc_tm4 (List.mem_of_getElem? (i := 229) rfl) rfl
set_option maxRecDepth 20000 in
theorem T_950 : (Jvm.Cond.instanceMethod ({ cls := "RecordCallsModel", name := "open", desc := "(I)Z" } : Jvm.MethodName)) ∈ rc_tb := rc_tm4 (List.mem_of_getElem? (i := 230) rfl) rfl
set_option maxRecDepth 20000 in
theorem T_951 : (Jvm.Cond.selects "RecordCallsModel" ({ cls := "RecordCallsModel", name := "open", desc := "(I)Z" } : Jvm.MethodName) ({ cls := "RecordCallsModel", name := "open", desc := "(I)Z" } : Jvm.MethodName)) ∈ rc_tb := rc_tm4 (List.mem_of_getElem? (i := 231) rfl) rfl
set_option maxRecDepth 20000 in
theorem T_952 : (Jvm.Cond.code ({ cls := "RecordCallsModel", name := "open", desc := "(I)Z" } : Jvm.MethodName) prog_9_method_13_code (3 : Nat) (Option.some Jvm.ClassFile.FieldType.boolean)) ∈ rc_tb := rc_tm4 (List.mem_of_getElem? (i := 232) rfl) rfl
set_option maxRecDepth 20000 in
theorem T_953 : (Jvm.Cond.methodLink "RecordCallsLaw" (64 : Nat) ({ cls := "RecordCallsModel", name := "feed", desc := "(IIIII)I" } : Jvm.MethodName)) ∈ rc_tb := rc_tm4 (List.mem_of_getElem? (i := 233) rfl) rfl
set_option maxRecDepth 20000 in
theorem T_954 : (Jvm.Cond.instanceMethod ({ cls := "RecordCallsModel", name := "feed", desc := "(IIIII)I" } : Jvm.MethodName)) ∈ rc_tb := rc_tm4 (List.mem_of_getElem? (i := 234) rfl) rfl
set_option maxRecDepth 20000 in
theorem T_955 : (Jvm.Cond.selects "RecordCallsModel" ({ cls := "RecordCallsModel", name := "feed", desc := "(IIIII)I" } : Jvm.MethodName) ({ cls := "RecordCallsModel", name := "feed", desc := "(IIIII)I" } : Jvm.MethodName)) ∈ rc_tb := rc_tm4 (List.mem_of_getElem? (i := 235) rfl) rfl
set_option maxRecDepth 20000 in
theorem T_956 : (Jvm.Cond.code ({ cls := "RecordCallsModel", name := "feed", desc := "(IIIII)I" } : Jvm.MethodName) prog_9_method_34_code (8 : Nat) (Option.some Jvm.ClassFile.FieldType.int)) ∈ rc_tb := rc_tm4 (List.mem_of_getElem? (i := 236) rfl) rfl
set_option maxRecDepth 20000 in
theorem T_957 : (Jvm.Cond.methodLink "RecordCallsLaw" (72 : Nat) ({ cls := "RecordCallsModel", name := "end", desc := "(I)V" } : Jvm.MethodName)) ∈ rc_tb := rc_tm4 (List.mem_of_getElem? (i := 237) rfl) rfl
set_option maxRecDepth 20000 in
theorem T_958 : (Jvm.Cond.instanceMethod ({ cls := "RecordCallsModel", name := "end", desc := "(I)V" } : Jvm.MethodName)) ∈ rc_tb := rc_tm4 (List.mem_of_getElem? (i := 238) rfl) rfl
set_option maxRecDepth 20000 in
theorem T_959 : (Jvm.Cond.selects "RecordCallsModel" ({ cls := "RecordCallsModel", name := "end", desc := "(I)V" } : Jvm.MethodName) ({ cls := "RecordCallsModel", name := "end", desc := "(I)V" } : Jvm.MethodName)) ∈ rc_tb := rc_tm4 (List.mem_of_getElem? (i := 239) rfl) rfl
set_option maxRecDepth 20000 in
theorem T_960 : (Jvm.Cond.code ({ cls := "RecordCallsModel", name := "end", desc := "(I)V" } : Jvm.MethodName) prog_9_method_35_code (2 : Nat) (Option.none : Option Jvm.ClassFile.FieldType)) ∈ rc_tb := rc_tm5 (List.mem_of_getElem? (i := 0) rfl) rfl
set_option maxRecDepth 20000 in
theorem T_961 : (Jvm.Cond.methodLink "RecordCallsLaw" (96 : Nat) ({ cls := "RecordCallsModel", name := "length", desc := "(I)I" } : Jvm.MethodName)) ∈ rc_tb := rc_tm5 (List.mem_of_getElem? (i := 1) rfl) rfl
set_option maxRecDepth 20000 in
theorem T_962 : (Jvm.Cond.instanceMethod ({ cls := "RecordCallsModel", name := "length", desc := "(I)I" } : Jvm.MethodName)) ∈ rc_tb := rc_tm5 (List.mem_of_getElem? (i := 2) rfl) rfl
set_option maxRecDepth 20000 in
theorem T_963 : (Jvm.Cond.selects "RecordCallsModel" ({ cls := "RecordCallsModel", name := "length", desc := "(I)I" } : Jvm.MethodName) ({ cls := "RecordCallsModel", name := "length", desc := "(I)I" } : Jvm.MethodName)) ∈ rc_tb := rc_tm5 (List.mem_of_getElem? (i := 3) rfl) rfl
set_option maxRecDepth 20000 in
theorem T_964 : (Jvm.Cond.code ({ cls := "RecordCallsModel", name := "length", desc := "(I)I" } : Jvm.MethodName) prog_9_method_36_code (2 : Nat) (Option.some Jvm.ClassFile.FieldType.int)) ∈ rc_tb := rc_tm5 (List.mem_of_getElem? (i := 4) rfl) rfl
set_option maxRecDepth 20000 in
theorem T_965 : (Jvm.Cond.methodLink "RecordCallsLaw" (100 : Nat) ({ cls := "RecordCallsModel", name := "byteAt", desc := "(II)I" } : Jvm.MethodName)) ∈ rc_tb := rc_tm5 (List.mem_of_getElem? (i := 5) rfl) rfl
set_option maxRecDepth 20000 in
theorem T_966 : (Jvm.Cond.instanceMethod ({ cls := "RecordCallsModel", name := "byteAt", desc := "(II)I" } : Jvm.MethodName)) ∈ rc_tb := rc_tm5 (List.mem_of_getElem? (i := 6) rfl) rfl
set_option maxRecDepth 20000 in
theorem T_967 : (Jvm.Cond.selects "RecordCallsModel" ({ cls := "RecordCallsModel", name := "byteAt", desc := "(II)I" } : Jvm.MethodName) ({ cls := "RecordCallsModel", name := "byteAt", desc := "(II)I" } : Jvm.MethodName)) ∈ rc_tb := rc_tm5 (List.mem_of_getElem? (i := 7) rfl) rfl
set_option maxRecDepth 20000 in
theorem T_968 : (Jvm.Cond.code ({ cls := "RecordCallsModel", name := "byteAt", desc := "(II)I" } : Jvm.MethodName) prog_9_method_37_code (3 : Nat) (Option.some Jvm.ClassFile.FieldType.int)) ∈ rc_tb := rc_tm5 (List.mem_of_getElem? (i := 8) rfl) rfl
set_option maxRecDepth 20000 in
theorem T_969 : (Jvm.Cond.methodLink "RecordCallsLaw" (103 : Nat) ({ cls := "RecordCallsModel", name := "word", desc := "(II)I" } : Jvm.MethodName)) ∈ rc_tb := rc_tm5 (List.mem_of_getElem? (i := 9) rfl) rfl
set_option maxRecDepth 20000 in
theorem T_970 : (Jvm.Cond.instanceMethod ({ cls := "RecordCallsModel", name := "word", desc := "(II)I" } : Jvm.MethodName)) ∈ rc_tb := rc_tm5 (List.mem_of_getElem? (i := 10) rfl) rfl
set_option maxRecDepth 20000 in
theorem T_971 : (Jvm.Cond.selects "RecordCallsModel" ({ cls := "RecordCallsModel", name := "word", desc := "(II)I" } : Jvm.MethodName) ({ cls := "RecordCallsModel", name := "word", desc := "(II)I" } : Jvm.MethodName)) ∈ rc_tb := rc_tm5 (List.mem_of_getElem? (i := 11) rfl) rfl
set_option maxRecDepth 20000 in
theorem T_972 : (Jvm.Cond.code ({ cls := "RecordCallsModel", name := "word", desc := "(II)I" } : Jvm.MethodName) prog_9_method_39_code (3 : Nat) (Option.some Jvm.ClassFile.FieldType.int)) ∈ rc_tb := rc_tm5 (List.mem_of_getElem? (i := 12) rfl) rfl
set_option maxRecDepth 20000 in
theorem T_973 : (Jvm.Cond.methodLink "RecordCallsModel" (211 : Nat) ({ cls := "RecordCallsModel", name := "wordIn", desc := "(II)I" } : Jvm.MethodName)) ∈ rc_tb := rc_tm5 (List.mem_of_getElem? (i := 13) rfl) rfl
set_option maxRecDepth 20000 in
theorem T_974 : (Jvm.Cond.privateMethod ({ cls := "RecordCallsModel", name := "wordIn", desc := "(II)I" } : Jvm.MethodName)) ∈ rc_tb := rc_tm5 (List.mem_of_getElem? (i := 14) rfl) rfl
set_option maxRecDepth 20000 in
theorem T_975 : (Jvm.Cond.instanceMethod ({ cls := "RecordCallsModel", name := "wordIn", desc := "(II)I" } : Jvm.MethodName)) ∈ rc_tb := rc_tm5 (List.mem_of_getElem? (i := 15) rfl) rfl
set_option maxRecDepth 20000 in
theorem T_976 : (Jvm.Cond.code ({ cls := "RecordCallsModel", name := "wordIn", desc := "(II)I" } : Jvm.MethodName) prog_9_method_38_code (5 : Nat) (Option.some Jvm.ClassFile.FieldType.int)) ∈ rc_tb := rc_tm5 (List.mem_of_getElem? (i := 16) rfl) rfl
set_option maxRecDepth 20000 in
theorem T_977 : (Jvm.Cond.methodLink "RecordCallsLaw" (106 : Nat) ({ cls := "RecordCallsModel", name := "says", desc := "(II)I" } : Jvm.MethodName)) ∈ rc_tb := rc_tm5 (List.mem_of_getElem? (i := 17) rfl) rfl
set_option maxRecDepth 20000 in
theorem T_978 : (Jvm.Cond.instanceMethod ({ cls := "RecordCallsModel", name := "says", desc := "(II)I" } : Jvm.MethodName)) ∈ rc_tb := rc_tm5 (List.mem_of_getElem? (i := 18) rfl) rfl
set_option maxRecDepth 20000 in
theorem T_979 : (Jvm.Cond.selects "RecordCallsModel" ({ cls := "RecordCallsModel", name := "says", desc := "(II)I" } : Jvm.MethodName) ({ cls := "RecordCallsModel", name := "says", desc := "(II)I" } : Jvm.MethodName)) ∈ rc_tb := rc_tm5 (List.mem_of_getElem? (i := 19) rfl) rfl
set_option maxRecDepth 20000 in
theorem T_980 : (Jvm.Cond.code ({ cls := "RecordCallsModel", name := "says", desc := "(II)I" } : Jvm.MethodName) prog_9_method_42_code (10 : Nat) (Option.some Jvm.ClassFile.FieldType.int)) ∈ rc_tb := rc_tm5 (List.mem_of_getElem? (i := 20) rfl) rfl
set_option maxRecDepth 20000 in
theorem T_981 : (Jvm.Cond.methodLink "RecordCallsModel" (215 : Nat) ({ cls := "RecordCallsModel", name := "wholeRecord", desc := "(I)I" } : Jvm.MethodName)) ∈ rc_tb := rc_tm5 (List.mem_of_getElem? (i := 21) rfl) rfl
set_option maxRecDepth 20000 in
theorem T_982 : (Jvm.Cond.privateMethod ({ cls := "RecordCallsModel", name := "wholeRecord", desc := "(I)I" } : Jvm.MethodName)) ∈ rc_tb := rc_tm5 (List.mem_of_getElem? (i := 22) rfl) rfl
set_option maxRecDepth 20000 in
theorem T_983 : (Jvm.Cond.instanceMethod ({ cls := "RecordCallsModel", name := "wholeRecord", desc := "(I)I" } : Jvm.MethodName)) ∈ rc_tb := rc_tm5 (List.mem_of_getElem? (i := 23) rfl) rfl
set_option maxRecDepth 20000 in
theorem T_984 : (Jvm.Cond.code ({ cls := "RecordCallsModel", name := "wholeRecord", desc := "(I)I" } : Jvm.MethodName) prog_9_method_40_code (9 : Nat) (Option.some Jvm.ClassFile.FieldType.int)) ∈ rc_tb := rc_tm5 (List.mem_of_getElem? (i := 24) rfl) rfl
set_option maxRecDepth 20000 in
theorem T_985 : (Jvm.Cond.methodLink "RecordCallsModel" (218 : Nat) ({ cls := "RecordCallsModel", name := "pushedWord", desc := "(I)I" } : Jvm.MethodName)) ∈ rc_tb := rc_tm5 (List.mem_of_getElem? (i := 25) rfl) rfl
set_option maxRecDepth 20000 in
theorem T_986 : (Jvm.Cond.privateMethod ({ cls := "RecordCallsModel", name := "pushedWord", desc := "(I)I" } : Jvm.MethodName)) ∈ rc_tb := rc_tm5 (List.mem_of_getElem? (i := 26) rfl) rfl
set_option maxRecDepth 20000 in
theorem T_987 : (Jvm.Cond.instanceMethod ({ cls := "RecordCallsModel", name := "pushedWord", desc := "(I)I" } : Jvm.MethodName)) ∈ rc_tb := rc_tm5 (List.mem_of_getElem? (i := 27) rfl) rfl
set_option maxRecDepth 20000 in
theorem T_988 : (Jvm.Cond.code ({ cls := "RecordCallsModel", name := "pushedWord", desc := "(I)I" } : Jvm.MethodName) prog_9_method_41_code (4 : Nat) (Option.some Jvm.ClassFile.FieldType.int)) ∈ rc_tb := rc_tm5 (List.mem_of_getElem? (i := 28) rfl) rfl
set_option maxRecDepth 20000 in
theorem T_989 : (Jvm.Cond.methodLink "RecordCallsLaw" (111 : Nat) ({ cls := "RecordCallsModel", name := "value", desc := "()J" } : Jvm.MethodName)) ∈ rc_tb := rc_tm5 (List.mem_of_getElem? (i := 29) rfl) rfl
set_option maxRecDepth 20000 in
theorem T_990 : (Jvm.Cond.instanceMethod ({ cls := "RecordCallsModel", name := "value", desc := "()J" } : Jvm.MethodName)) ∈ rc_tb := rc_tm5 (List.mem_of_getElem? (i := 30) rfl) rfl
set_option maxRecDepth 20000 in
theorem T_991 : (Jvm.Cond.selects "RecordCallsModel" ({ cls := "RecordCallsModel", name := "value", desc := "()J" } : Jvm.MethodName) ({ cls := "RecordCallsModel", name := "value", desc := "()J" } : Jvm.MethodName)) ∈ rc_tb := rc_tm5 (List.mem_of_getElem? (i := 31) rfl) rfl
set_option maxRecDepth 20000 in
theorem T_992 : (Jvm.Cond.code ({ cls := "RecordCallsModel", name := "value", desc := "()J" } : Jvm.MethodName) prog_9_method_44_code (1 : Nat) (Option.some Jvm.ClassFile.FieldType.long)) ∈ rc_tb := rc_tm5 (List.mem_of_getElem? (i := 32) rfl) rfl
set_option maxRecDepth 20000 in
theorem T_993 : (Jvm.Cond.methodLink "RecordCallsModel" (221 : Nat) ({ cls := "RecordCallsModel", name := "tapePlace", desc := "()I" } : Jvm.MethodName)) ∈ rc_tb := rc_tm5 (List.mem_of_getElem? (i := 33) rfl) rfl
set_option maxRecDepth 20000 in
theorem T_994 : (Jvm.Cond.privateMethod ({ cls := "RecordCallsModel", name := "tapePlace", desc := "()I" } : Jvm.MethodName)) ∈ rc_tb := rc_tm5 (List.mem_of_getElem? (i := 34) rfl) rfl
set_option maxRecDepth 20000 in
theorem T_995 : (Jvm.Cond.instanceMethod ({ cls := "RecordCallsModel", name := "tapePlace", desc := "()I" } : Jvm.MethodName)) ∈ rc_tb := rc_tm5 (List.mem_of_getElem? (i := 35) rfl) rfl
set_option maxRecDepth 20000 in
theorem T_996 : (Jvm.Cond.code ({ cls := "RecordCallsModel", name := "tapePlace", desc := "()I" } : Jvm.MethodName) prog_9_method_43_code (4 : Nat) (Option.some Jvm.ClassFile.FieldType.int)) ∈ rc_tb := rc_tm5 (List.mem_of_getElem? (i := 36) rfl) rfl
set_option maxRecDepth 20000 in
theorem T_997 : (Jvm.Cond.methodLink "RecordCallsLaw" (116 : Nat) ({ cls := "RecordCallsModel", name := "has", desc := "()Z" } : Jvm.MethodName)) ∈ rc_tb := rc_tm5 (List.mem_of_getElem? (i := 37) rfl) rfl
set_option maxRecDepth 20000 in
theorem T_998 : (Jvm.Cond.instanceMethod ({ cls := "RecordCallsModel", name := "has", desc := "()Z" } : Jvm.MethodName)) ∈ rc_tb := rc_tm5 (List.mem_of_getElem? (i := 38) rfl) rfl
set_option maxRecDepth 20000 in
theorem T_999 : (Jvm.Cond.selects "RecordCallsModel" ({ cls := "RecordCallsModel", name := "has", desc := "()Z" } : Jvm.MethodName) ({ cls := "RecordCallsModel", name := "has", desc := "()Z" } : Jvm.MethodName)) ∈ rc_tb := rc_tm5 (List.mem_of_getElem? (i := 39) rfl) rfl
set_option maxRecDepth 20000 in
theorem T_1000 : (Jvm.Cond.code ({ cls := "RecordCallsModel", name := "has", desc := "()Z" } : Jvm.MethodName) prog_9_method_45_code (1 : Nat) (Option.some Jvm.ClassFile.FieldType.boolean)) ∈ rc_tb := rc_tm5 (List.mem_of_getElem? (i := 40) rfl) rfl
set_option maxRecDepth 20000 in
theorem T_1001 : (Jvm.Cond.methodLink "RecordCallsLaw" (119 : Nat) ({ cls := "RecordCallsModel", name := "count", desc := "(I)I" } : Jvm.MethodName)) ∈ rc_tb := rc_tm5 (List.mem_of_getElem? (i := 41) rfl) rfl
set_option maxRecDepth 20000 in
theorem T_1002 : (Jvm.Cond.instanceMethod ({ cls := "RecordCallsModel", name := "count", desc := "(I)I" } : Jvm.MethodName)) ∈ rc_tb := rc_tm5 (List.mem_of_getElem? (i := 42) rfl) rfl
set_option maxRecDepth 20000 in
theorem T_1003 : (Jvm.Cond.selects "RecordCallsModel" ({ cls := "RecordCallsModel", name := "count", desc := "(I)I" } : Jvm.MethodName) ({ cls := "RecordCallsModel", name := "count", desc := "(I)I" } : Jvm.MethodName)) ∈ rc_tb := rc_tm5 (List.mem_of_getElem? (i := 43) rfl) rfl
set_option maxRecDepth 20000 in
theorem T_1004 : (Jvm.Cond.code ({ cls := "RecordCallsModel", name := "count", desc := "(I)I" } : Jvm.MethodName) prog_9_method_46_code (2 : Nat) (Option.some Jvm.ClassFile.FieldType.int)) ∈ rc_tb := rc_tm5 (List.mem_of_getElem? (i := 44) rfl) rfl
set_option maxRecDepth 20000 in
theorem T_1005 : (Jvm.Cond.constantLong "RecordCallsLaw" (81 : Nat) (4294967295 : Int64)) ∈ rc_tb := rc_tm5 (List.mem_of_getElem? (i := 45) rfl) rfl
set_option maxRecDepth 20000 in
theorem T_1006 : (Jvm.Cond.sameMethod "java/lang/Throwable" "java/lang/Throwable" "fillInStackTrace" "(I)Ljava/lang/Throwable;") ∈ rc_tb := rc_tm5 (List.mem_of_getElem? (i := 46) rfl) rfl
