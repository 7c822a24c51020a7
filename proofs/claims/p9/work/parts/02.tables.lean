/-! THE TABLES OF THE SMALL MACHINE, laid by wip/gen/gen.py out of the claim's own listing: 119 methods -/
def zm_no : Nat := 2
def zm_w : Nat := 41
def zm_C : Nat := 601026
def zm_S : Nat := 7293034
def zm_T0 : u_T := fun k => match k with
  | 0 => ("NeedMachine", "text", "LNeedMachine$Text;", true)
  | 1 => ("NeedMachine", "store", "LNeedMachine$Store;", true)
  | 2 => ("NeedMachine", "definitions", "[LNeedMachine$Definition;", true)
  | 3 => ("NeedMachine", "result", "LNeedMachine$Value;", false)
  | 4 => ("NeedMachine", "calls", "I", false)
  | 5 => ("NeedMachine", "callsOfAll", "I", false)
  | 6 => ("NeedMachine", "forcedFirst", "I", false)
  | 7 => ("NeedMachine", "forcedLater", "I", false)
  | 8 => ("NeedMachine", "deepest", "I", false)
  | _ => ("", "", "", false)
def zm_T1 : u_T := fun k => match k with
  | 0 => ("NeedMachine$Text", "length", "I", false)
  | 1 => ("NeedMachine$Text", "badPlace", "I", false)
  | 2 => ("NeedMachine$Text", "characters", "[C", true)
  | 3 => ("NeedMachine$Text", "parameters", "[C", true)
  | 4 => ("NeedMachine$Text", "parametersRead", "I", false)
  | 5 => ("NeedMachine$Text", "end", "I", false)
  | 6 => ("NeedMachine$Text", "place", "I", false)
  | 7 => ("NeedMachine$Text", "owed", "I", false)
  | _ => ("", "", "", false)
def zm_T2 : u_T := fun k => match k with
  | 0 => ("NeedMachine$Store", "nil", "LNeedMachine$Value;", true)
  | 1 => ("NeedMachine$Store", "values", "Ljava/util/ArrayList;", true)
  | 2 => ("NeedMachine$Store", "closures", "Ljava/util/ArrayList;", true)
  | 3 => ("NeedMachine$Store", "chains", "Ljava/util/ArrayList;", true)
  | 4 => ("NeedMachine$Store", "valuesUsed", "I", false)
  | 5 => ("NeedMachine$Store", "closuresUsed", "I", false)
  | 6 => ("NeedMachine$Store", "chainsUsed", "I", false)
  | _ => ("", "", "", false)
def zm_T3 : u_T := fun k => match k with
  | 0 => ("NeedMachine$Value", "kind", "I", false)
  | 1 => ("NeedMachine$Value", "number", "I", false)
  | 2 => ("NeedMachine$Value", "head", "LNeedMachine$Closure;", false)
  | 3 => ("NeedMachine$Value", "tail", "LNeedMachine$Closure;", false)
  | 4 => ("NeedMachine$Value", "arguments", "LNeedMachine$Arguments;", false)
  | _ => ("", "", "", false)
def zm_T4 : u_T := fun k => match k with
  | 0 => ("java/util/ArrayList", "elementData", "[Ljava/lang/Object;", false)
  | 1 => ("java/util/ArrayList", "size", "I", false)
  | 2 => ("java/util/AbstractList", "modCount", "I", false)
  | _ => ("", "", "", false)
def zm_T5 : u_T := fun k => match k with
  | 0 => ("NeedMachineModel", "text", "[I", true)
  | 1 => ("NeedMachineModel", "pool", "[I", true)
  | 2 => ("NeedMachineModel", "spare", "[I", true)
  | 3 => ("NeedMachineModel", "body", "[I", true)
  | 4 => ("NeedMachineModel", "letters", "[I", true)
  | 5 => ("NeedMachineModel", "parameters", "[I", true)
  | 6 => ("NeedMachineModel", "need", "[I", true)
  | 7 => ("NeedMachineModel", "defined", "[Z", true)
  | 8 => ("NeedMachineModel", "size", "I", false)
  | 9 => ("NeedMachineModel", "place", "I", false)
  | 10 => ("NeedMachineModel", "pos", "I", false)
  | 11 => ("NeedMachineModel", "pooled", "I", false)
  | 12 => ("NeedMachineModel", "thrown", "I", false)
  | 13 => ("NeedMachineModel", "expression", "[I", true)
  | 14 => ("NeedMachineModel", "around", "[I", true)
  | 15 => ("NeedMachineModel", "state", "[I", true)
  | 16 => ("NeedMachineModel", "kind", "[I", true)
  | 17 => ("NeedMachineModel", "first", "[I", true)
  | 18 => ("NeedMachineModel", "second", "[I", true)
  | 19 => ("NeedMachineModel", "name", "[I", true)
  | 20 => ("NeedMachineModel", "holds", "[I", true)
  | 21 => ("NeedMachineModel", "argument", "[I", true)
  | 22 => ("NeedMachineModel", "before", "[I", true)
  | 23 => ("NeedMachineModel", "closures", "I", false)
  | 24 => ("NeedMachineModel", "surroundings", "I", false)
  | 25 => ("NeedMachineModel", "arguments", "I", false)
  | 26 => ("NeedMachineModel", "at", "[I", true)
  | 27 => ("NeedMachineModel", "in", "[I", true)
  | 28 => ("NeedMachineModel", "stage", "[I", true)
  | 29 => ("NeedMachineModel", "kept", "[I", true)
  | 30 => ("NeedMachineModel", "forcing", "[I", true)
  | 31 => ("NeedMachineModel", "depth", "I", false)
  | 32 => ("NeedMachineModel", "deepest", "I", false)
  | 33 => ("NeedMachineModel", "callsNow", "I", false)
  | 34 => ("NeedMachineModel", "calls", "I", false)
  | 35 => ("NeedMachineModel", "forced", "I", false)
  | 36 => ("NeedMachineModel", "again", "I", false)
  | 37 => ("NeedMachineModel", "outKind", "I", false)
  | 38 => ("NeedMachineModel", "outFirst", "I", false)
  | 39 => ("NeedMachineModel", "outSecond", "I", false)
  | 40 => ("NeedMachineModel", "resultKind", "I", false)
  | 41 => ("NeedMachineModel", "resultFirst", "I", false)
  | 42 => ("NeedMachineModel", "resultSecond", "I", false)
  | 43 => ("NeedMachineModel", "has", "Z", false)
  | _ => ("", "", "", false)
def zm_T6 : u_T := fun k => match k with
  | 0 => ("NeedMachine$Definition", "name", "I", true)
  | 1 => ("NeedMachine$Definition", "parameters", "I", true)
  | 2 => ("NeedMachine$Definition", "body", "LNeedMachine$Expression;", true)
  | _ => ("", "", "", false)
def zm_T7 : u_T := fun k => match k with
  | 0 => ("NeedMachine$Expression", "sign", "C", true)
  | 1 => ("NeedMachine$Expression", "index", "I", true)
  | 2 => ("NeedMachine$Expression", "first", "LNeedMachine$Expression;", true)
  | 3 => ("NeedMachine$Expression", "second", "LNeedMachine$Expression;", true)
  | 4 => ("NeedMachine$Expression", "third", "LNeedMachine$Expression;", true)
  | _ => ("", "", "", false)
def zm_T8 : u_T := fun k => match k with
  | 0 => ("NeedMachine$Closure", "expression", "LNeedMachine$Expression;", false)
  | 1 => ("NeedMachine$Closure", "given", "LNeedMachine$Arguments;", false)
  | 2 => ("NeedMachine$Closure", "begun", "Z", false)
  | 3 => ("NeedMachine$Closure", "value", "LNeedMachine$Value;", false)
  | _ => ("", "", "", false)
def zm_T9 : u_T := fun k => match k with
  | 0 => ("NeedMachine$Arguments", "before", "LNeedMachine$Arguments;", false)
  | 1 => ("NeedMachine$Arguments", "last", "LNeedMachine$Closure;", false)
  | 2 => ("NeedMachine$Arguments", "size", "I", false)
  | _ => ("", "", "", false)
def zm_cl : List vw_C := [("NeedMachine", zm_T0, 9), ("NeedMachine$Text", zm_T1, 8), ("NeedMachine$Store", zm_T2, 7), ("NeedMachine$Value", zm_T3, 5), ("java/util/ArrayList", zm_T4, 3), ("NeedMachineModel", zm_T5, 44), ("NeedMachine$Definition", zm_T6, 3), ("NeedMachine$Expression", zm_T7, 5), ("NeedMachine$Closure", zm_T8, 4), ("NeedMachine$Arguments", zm_T9, 3)]
def zm_ft : List (List FieldType) := [[.object "NeedMachine$Text", .object "NeedMachine$Store", .array (.object "NeedMachine$Definition"), .object "NeedMachine$Value", .int, .int, .int, .int, .int], [.int, .int, .array .char, .array .char, .int, .int, .int, .int], [.object "NeedMachine$Value", .object "java/util/ArrayList", .object "java/util/ArrayList", .object "java/util/ArrayList", .int, .int, .int], [.int, .int, .object "NeedMachine$Closure", .object "NeedMachine$Closure", .object "NeedMachine$Arguments"], [.array (.object "java/lang/Object"), .int, .int], [.array .int, .array .int, .array .int, .array .int, .array .int, .array .int, .array .int, .array .boolean, .int, .int, .int, .int, .int, .array .int, .array .int, .array .int, .array .int, .array .int, .array .int, .array .int, .array .int, .array .int, .array .int, .int, .int, .int, .array .int, .array .int, .array .int, .array .int, .array .int, .int, .int, .int, .int, .int, .int, .int, .int, .int, .int, .int, .int, .boolean], [.int, .int, .object "NeedMachine$Expression"], [.char, .int, .object "NeedMachine$Expression", .object "NeedMachine$Expression", .object "NeedMachine$Expression"], [.object "NeedMachine$Expression", .object "NeedMachine$Arguments", .boolean, .object "NeedMachine$Value"], [.object "NeedMachine$Arguments", .object "NeedMachine$Closure", .int]]
def zm_aty : List FieldType := [.int, .char, .long, .boolean, .object "NeedMachine$Definition", .object "java/lang/Object"]
/-- statics that are read: the old cell, where it stands -/
def zm_os : List (Nat × String × String × String) := [(1, "java/util/ArrayList", "DEFAULTCAPACITY_EMPTY_ELEMENTDATA", "[Ljava/lang/Object;")]
def zm_sub : List (Nat × Nat) := [(4, 6), (5, 3), (5, 8), (5, 9)]
def zm_xn : List String := ["java/lang/IllegalArgumentException", "java/lang/IllegalStateException", "java/util/NoSuchElementException", "java/lang/UnsupportedOperationException", "java/lang/ArithmeticException"]
/-- words that the start gives beside the tables' -/
def zm_ex : List Cond := [.not (.castable "java/lang/IllegalArgumentException" "java/lang/IllegalStateException"), .not (.castable "java/lang/IllegalArgumentException" "java/util/NoSuchElementException"), .not (.castable "java/lang/IllegalArgumentException" "java/lang/UnsupportedOperationException"), .not (.castable "java/lang/IllegalArgumentException" "java/lang/ArithmeticException"), .not (.castable "java/lang/IllegalStateException" "java/lang/IllegalArgumentException"), .not (.castable "java/lang/IllegalStateException" "java/util/NoSuchElementException"), .not (.castable "java/lang/IllegalStateException" "java/lang/UnsupportedOperationException"), .not (.castable "java/lang/IllegalStateException" "java/lang/ArithmeticException"), .not (.castable "java/util/NoSuchElementException" "java/lang/IllegalArgumentException"), .not (.castable "java/util/NoSuchElementException" "java/lang/IllegalStateException"), .not (.castable "java/util/NoSuchElementException" "java/lang/UnsupportedOperationException"), .not (.castable "java/util/NoSuchElementException" "java/lang/ArithmeticException"), .not (.castable "java/lang/UnsupportedOperationException" "java/lang/IllegalArgumentException"), .not (.castable "java/lang/UnsupportedOperationException" "java/lang/IllegalStateException"), .not (.castable "java/lang/UnsupportedOperationException" "java/util/NoSuchElementException"), .not (.castable "java/lang/UnsupportedOperationException" "java/lang/ArithmeticException"), .not (.castable "java/lang/ArithmeticException" "java/lang/IllegalArgumentException"), .not (.castable "java/lang/ArithmeticException" "java/lang/IllegalStateException"), .not (.castable "java/lang/ArithmeticException" "java/util/NoSuchElementException"), .not (.castable "java/lang/ArithmeticException" "java/lang/UnsupportedOperationException"), .isRef (.static "java/lang/Throwable" "UNASSIGNED_STACK" "[Ljava/lang/StackTraceElement;"), .isRef (.static "java/lang/Throwable" "SUPPRESSED_SENTINEL" "Ljava/util/List;"), .isRef (.mirror "[Ljava/lang/Object;")]
def zm_tb : List Cond := lw_tbl ++ zm_ex
def zm_m0 : MethodName × ByteArray × Nat × Option FieldType × List (Nat × Nat × Nat × Nat) := (⟨"NeedMachineLaw", "law", "([I)Z"⟩, code, 7, ret, [])
def zm_m1 : MethodName × ByteArray × Nat × Option FieldType × List (Nat × Nat × Nat × Nat) := (⟨"NeedMachine", "<init>", "()V"⟩, prog_1_method_1_code, 1, none, [])
def zm_m2 : MethodName × ByteArray × Nat × Option FieldType × List (Nat × Nat × Nat × Nat) := (⟨"java/lang/Object", "<init>", "()V"⟩, object_method_1_code, 1, none, [])
def zm_m3 : MethodName × ByteArray × Nat × Option FieldType × List (Nat × Nat × Nat × Nat) := (⟨"NeedMachine$Text", "<init>", "()V"⟩, prog_7_method_1_code, 1, none, [])
def zm_m4 : MethodName × ByteArray × Nat × Option FieldType × List (Nat × Nat × Nat × Nat) := (⟨"NeedMachine$Store", "<init>", "()V"⟩, prog_6_method_1_code, 1, none, [])
def zm_m5 : MethodName × ByteArray × Nat × Option FieldType × List (Nat × Nat × Nat × Nat) := (⟨"NeedMachine$Value", "<init>", "()V"⟩, prog_8_method_1_code, 1, none, [])
def zm_m6 : MethodName × ByteArray × Nat × Option FieldType × List (Nat × Nat × Nat × Nat) := (⟨"java/util/ArrayList", "<init>", "()V"⟩, prog_26_method_2_code, 1, none, [])
def zm_m7 : MethodName × ByteArray × Nat × Option FieldType × List (Nat × Nat × Nat × Nat) := (⟨"java/util/AbstractList", "<init>", "()V"⟩, prog_25_method_1_code, 1, none, [])
def zm_m8 : MethodName × ByteArray × Nat × Option FieldType × List (Nat × Nat × Nat × Nat) := (⟨"java/util/AbstractCollection", "<init>", "()V"⟩, prog_24_method_1_code, 1, none, [])
def zm_m9 : MethodName × ByteArray × Nat × Option FieldType × List (Nat × Nat × Nat × Nat) := (⟨"NeedMachine", "count", "(I)I"⟩, prog_1_method_9_code, 2, (some .int), [])
def zm_m10 : MethodName × ByteArray × Nat × Option FieldType × List (Nat × Nat × Nat × Nat) := (⟨"NeedMachine", "countDefinitions", "()I"⟩, prog_1_method_10_code, 6, (some .int), [])
def zm_m11 : MethodName × ByteArray × Nat × Option FieldType × List (Nat × Nat × Nat × Nat) := (⟨"NeedMachineLaw", "type", "(LNeedMachine;J[J)I"⟩, method_3_code, 5, (some .int), [(0, 9, 12, 13), (0, 9, 16, 15)])
def zm_m12 : MethodName × ByteArray × Nat × Option FieldType × List (Nat × Nat × Nat × Nat) := (⟨"NeedMachine", "type", "(J)I"⟩, prog_1_method_2_code, 3, (some .int), [])
def zm_m13 : MethodName × ByteArray × Nat × Option FieldType × List (Nat × Nat × Nat × Nat) := (⟨"NeedMachine$Text", "add", "(J)I"⟩, prog_7_method_2_code, 6, (some .int), [])
def zm_m14 : MethodName × ByteArray × Nat × Option FieldType × List (Nat × Nat × Nat × Nat) := (⟨"NeedMachine$Text", "byteAt", "(JI)I"⟩, prog_7_method_3_code, 3, (some .int), [])
def zm_m15 : MethodName × ByteArray × Nat × Option FieldType × List (Nat × Nat × Nat × Nat) := (⟨"NeedMachineLaw", "define", "(LNeedMachine;[J)I"⟩, method_4_code, 3, (some .int), [(0, 8, 11, 13)])
def zm_m16 : MethodName × ByteArray × Nat × Option FieldType × List (Nat × Nat × Nat × Nat) := (⟨"NeedMachine", "define", "()I"⟩, prog_1_method_3_code, 2, (some .int), [])
def zm_m17 : MethodName × ByteArray × Nat × Option FieldType × List (Nat × Nat × Nat × Nat) := (⟨"NeedMachine$Text", "readDefinition", "()LNeedMachine$Definition;"⟩, prog_7_method_4_code, 2, (some (.object "NeedMachine$Definition")), [])
def zm_m18 : MethodName × ByteArray × Nat × Option FieldType × List (Nat × Nat × Nat × Nat) := (⟨"NeedMachine$Text", "beginReading", "()V"⟩, prog_7_method_6_code, 1, none, [])
def zm_m19 : MethodName × ByteArray × Nat × Option FieldType × List (Nat × Nat × Nat × Nat) := (⟨"NeedMachine$Text", "isName", "(C)Z"⟩, prog_7_method_16_code, 1, (some .boolean), [])
def zm_m20 : MethodName × ByteArray × Nat × Option FieldType × List (Nat × Nat × Nat × Nat) := (⟨"NeedMachine$Text", "refuseUnless", "(Z)V"⟩, prog_7_method_18_code, 2, none, [])
def zm_m21 : MethodName × ByteArray × Nat × Option FieldType × List (Nat × Nat × Nat × Nat) := (⟨"NeedMachine$Text", "readParameters", "()V"⟩, prog_7_method_7_code, 1, none, [])
def zm_m22 : MethodName × ByteArray × Nat × Option FieldType × List (Nat × Nat × Nat × Nat) := (⟨"NeedMachine$Text", "isNewParameter", "(C)Z"⟩, prog_7_method_13_code, 2, (some .boolean), [])
def zm_m23 : MethodName × ByteArray × Nat × Option FieldType × List (Nat × Nat × Nat × Nat) := (⟨"NeedMachine$Text", "parameterIndex", "(C)I"⟩, prog_7_method_14_code, 3, (some .int), [])
def zm_m24 : MethodName × ByteArray × Nat × Option FieldType × List (Nat × Nat × Nat × Nat) := (⟨"NeedMachine$Text", "readToTheEnd", "()LNeedMachine$Expression;"⟩, prog_7_method_8_code, 2, (some (.object "NeedMachine$Expression")), [])
def zm_m25 : MethodName × ByteArray × Nat × Option FieldType × List (Nat × Nat × Nat × Nat) := (⟨"NeedMachine$Text", "readExpression", "(I)LNeedMachine$Expression;"⟩, prog_7_method_9_code, 7, (some (.object "NeedMachine$Expression")), [])
def zm_m26 : MethodName × ByteArray × Nat × Option FieldType × List (Nat × Nat × Nat × Nat) := (⟨"NeedMachine$Text", "canStand", "(CI)Z"⟩, prog_7_method_11_code, 4, (some .boolean), [])
def zm_m27 : MethodName × ByteArray × Nat × Option FieldType × List (Nat × Nat × Nat × Nat) := (⟨"NeedMachine$Text", "partsOf", "(C)I"⟩, prog_7_method_17_code, 1, (some .int), [])
def zm_m28 : MethodName × ByteArray × Nat × Option FieldType × List (Nat × Nat × Nat × Nat) := (⟨"NeedMachine$Text", "isLeaf", "(C)Z"⟩, prog_7_method_12_code, 2, (some .boolean), [])
def zm_m29 : MethodName × ByteArray × Nat × Option FieldType × List (Nat × Nat × Nat × Nat) := (⟨"NeedMachine$Text", "isDigit", "(C)Z"⟩, prog_7_method_15_code, 1, (some .boolean), [])
def zm_m30 : MethodName × ByteArray × Nat × Option FieldType × List (Nat × Nat × Nat × Nat) := (⟨"NeedMachine$Text", "readLeaf", "(C)LNeedMachine$Expression;"⟩, prog_7_method_10_code, 3, (some (.object "NeedMachine$Expression")), [])
def zm_m31 : MethodName × ByteArray × Nat × Option FieldType × List (Nat × Nat × Nat × Nat) := (⟨"NeedMachine$Expression", "<init>", "(CILNeedMachine$Expression;LNeedMachine$Expression;LNeedMachine$Expression;)V"⟩, prog_5_method_1_code, 6, none, [])
def zm_m32 : MethodName × ByteArray × Nat × Option FieldType × List (Nat × Nat × Nat × Nat) := (⟨"NeedMachine$Definition", "<init>", "(IILNeedMachine$Expression;)V"⟩, prog_4_method_1_code, 4, none, [])
def zm_m33 : MethodName × ByteArray × Nat × Option FieldType × List (Nat × Nat × Nat × Nat) := (⟨"NeedMachineLaw", "ask", "(LNeedMachine;[J)I"⟩, method_5_code, 3, (some .int), [(0, 8, 11, 13), (0, 8, 14, 24), (0, 8, 17, 26), (0, 8, 20, 15), (0, 8, 23, 28)])
def zm_m34 : MethodName × ByteArray × Nat × Option FieldType × List (Nat × Nat × Nat × Nat) := (⟨"NeedMachine", "ask", "()I"⟩, prog_1_method_4_code, 2, (some .int), [])
def zm_m35 : MethodName × ByteArray × Nat × Option FieldType × List (Nat × Nat × Nat × Nat) := (⟨"NeedMachine$Text", "readAsked", "()LNeedMachine$Expression;"⟩, prog_7_method_5_code, 1, (some (.object "NeedMachine$Expression")), [])
def zm_m36 : MethodName × ByteArray × Nat × Option FieldType × List (Nat × Nat × Nat × Nat) := (⟨"NeedMachine$Store", "takeAllBack", "()V"⟩, prog_6_method_2_code, 1, none, [])
def zm_m37 : MethodName × ByteArray × Nat × Option FieldType × List (Nat × Nat × Nat × Nat) := (⟨"NeedMachine", "work", "(LNeedMachine$Expression;LNeedMachine$Arguments;I)LNeedMachine$Value;"⟩, prog_1_method_12_code, 4, (some (.object "NeedMachine$Value")), [])
def zm_m38 : MethodName × ByteArray × Nat × Option FieldType × List (Nat × Nat × Nat × Nat) := (⟨"NeedMachine$Store", "makeNumber", "(I)LNeedMachine$Value;"⟩, prog_6_method_3_code, 3, (some (.object "NeedMachine$Value")), [])
def zm_m39 : MethodName × ByteArray × Nat × Option FieldType × List (Nat × Nat × Nat × Nat) := (⟨"NeedMachine$Store", "nextValue", "(I)LNeedMachine$Value;"⟩, prog_6_method_8_code, 3, (some (.object "NeedMachine$Value")), [])
def zm_m40 : MethodName × ByteArray × Nat × Option FieldType × List (Nat × Nat × Nat × Nat) := (⟨"NeedMachine", "argumentAt", "(LNeedMachine$Arguments;I)LNeedMachine$Closure;"⟩, prog_1_method_22_code, 3, (some (.object "NeedMachine$Closure")), [])
def zm_m41 : MethodName × ByteArray × Nat × Option FieldType × List (Nat × Nat × Nat × Nat) := (⟨"NeedMachine", "force", "(LNeedMachine$Closure;I)LNeedMachine$Value;"⟩, prog_1_method_19_code, 4, (some (.object "NeedMachine$Value")), [])
def zm_m42 : MethodName × ByteArray × Nat × Option FieldType × List (Nat × Nat × Nat × Nat) := (⟨"NeedMachine", "mustBeWorkedOut", "(LNeedMachine$Closure;)LNeedMachine$Value;"⟩, prog_1_method_23_code, 1, (some (.object "NeedMachine$Value")), [])
def zm_m43 : MethodName × ByteArray × Nat × Option FieldType × List (Nat × Nat × Nat × Nat) := (⟨"NeedMachine", "workName", "(II)LNeedMachine$Value;"⟩, prog_1_method_13_code, 4, (some (.object "NeedMachine$Value")), [])
def zm_m44 : MethodName × ByteArray × Nat × Option FieldType × List (Nat × Nat × Nat × Nat) := (⟨"NeedMachine", "definitionOf", "(I)LNeedMachine$Definition;"⟩, prog_1_method_21_code, 3, (some (.object "NeedMachine$Definition")), [])
def zm_m45 : MethodName × ByteArray × Nat × Option FieldType × List (Nat × Nat × Nat × Nat) := (⟨"NeedMachine", "call", "(LNeedMachine$Definition;LNeedMachine$Arguments;I)LNeedMachine$Value;"⟩, prog_1_method_15_code, 4, (some (.object "NeedMachine$Value")), [])
def zm_m46 : MethodName × ByteArray × Nat × Option FieldType × List (Nat × Nat × Nat × Nat) := (⟨"NeedMachine$Store", "makeFunction", "(ILNeedMachine$Arguments;)LNeedMachine$Value;"⟩, prog_6_method_5_code, 4, (some (.object "NeedMachine$Value")), [])
def zm_m47 : MethodName × ByteArray × Nat × Option FieldType × List (Nat × Nat × Nat × Nat) := (⟨"NeedMachine", "closureOf", "(LNeedMachine$Expression;LNeedMachine$Arguments;)LNeedMachine$Closure;"⟩, prog_1_method_20_code, 3, (some (.object "NeedMachine$Closure")), [])
def zm_m48 : MethodName × ByteArray × Nat × Option FieldType × List (Nat × Nat × Nat × Nat) := (⟨"NeedMachine$Store", "makeClosure", "(LNeedMachine$Expression;LNeedMachine$Arguments;)LNeedMachine$Closure;"⟩, prog_6_method_6_code, 4, (some (.object "NeedMachine$Closure")), [])
def zm_m49 : MethodName × ByteArray × Nat × Option FieldType × List (Nat × Nat × Nat × Nat) := (⟨"NeedMachine$Closure", "<init>", "()V"⟩, prog_3_method_1_code, 1, none, [])
def zm_m50 : MethodName × ByteArray × Nat × Option FieldType × List (Nat × Nat × Nat × Nat) := (⟨"NeedMachine$Store", "makePair", "(LNeedMachine$Closure;LNeedMachine$Closure;)LNeedMachine$Value;"⟩, prog_6_method_4_code, 4, (some (.object "NeedMachine$Value")), [])
def zm_m51 : MethodName × ByteArray × Nat × Option FieldType × List (Nat × Nat × Nat × Nat) := (⟨"NeedMachine", "apply", "(LNeedMachine$Expression;LNeedMachine$Arguments;I)LNeedMachine$Value;"⟩, prog_1_method_14_code, 7, (some (.object "NeedMachine$Value")), [])
def zm_m52 : MethodName × ByteArray × Nat × Option FieldType × List (Nat × Nat × Nat × Nat) := (⟨"NeedMachine$Store", "makeArguments", "(LNeedMachine$Arguments;LNeedMachine$Closure;)LNeedMachine$Arguments;"⟩, prog_6_method_7_code, 4, (some (.object "NeedMachine$Arguments")), [])
def zm_m53 : MethodName × ByteArray × Nat × Option FieldType × List (Nat × Nat × Nat × Nat) := (⟨"NeedMachine$Arguments", "<init>", "()V"⟩, prog_2_method_1_code, 1, none, [])
def zm_m54 : MethodName × ByteArray × Nat × Option FieldType × List (Nat × Nat × Nat × Nat) := (⟨"NeedMachine", "mustBePair", "(LNeedMachine$Value;)LNeedMachine$Value;"⟩, prog_1_method_25_code, 1, (some (.object "NeedMachine$Value")), [])
def zm_m55 : MethodName × ByteArray × Nat × Option FieldType × List (Nat × Nat × Nat × Nat) := (⟨"NeedMachine", "isNil", "(LNeedMachine$Value;)I"⟩, prog_1_method_26_code, 1, (some .int), [])
def zm_m56 : MethodName × ByteArray × Nat × Option FieldType × List (Nat × Nat × Nat × Nat) := (⟨"NeedMachine", "choose", "(LNeedMachine$Expression;LNeedMachine$Arguments;I)LNeedMachine$Value;"⟩, prog_1_method_16_code, 5, (some (.object "NeedMachine$Value")), [])
def zm_m57 : MethodName × ByteArray × Nat × Option FieldType × List (Nat × Nat × Nat × Nat) := (⟨"NeedMachine", "mustBeNumber", "(LNeedMachine$Value;)I"⟩, prog_1_method_24_code, 1, (some .int), [])
def zm_m58 : MethodName × ByteArray × Nat × Option FieldType × List (Nat × Nat × Nat × Nat) := (⟨"NeedMachine", "reckon", "(LNeedMachine$Expression;LNeedMachine$Arguments;I)LNeedMachine$Value;"⟩, prog_1_method_17_code, 6, (some (.object "NeedMachine$Value")), [])
def zm_m59 : MethodName × ByteArray × Nat × Option FieldType × List (Nat × Nat × Nat × Nat) := (⟨"NeedMachine", "reckonNumbers", "(CII)I"⟩, prog_1_method_18_code, 3, (some .int), [])
def zm_m60 : MethodName × ByteArray × Nat × Option FieldType × List (Nat × Nat × Nat × Nat) := (⟨"NeedMachine", "mustNotBeZero", "(I)I"⟩, prog_1_method_27_code, 1, (some .int), [])
def zm_m61 : MethodName × ByteArray × Nat × Option FieldType × List (Nat × Nat × Nat × Nat) := (⟨"NeedMachineLaw", "number", "(LNeedMachine;[J)I"⟩, method_6_code, 3, (some .int), [(0, 8, 11, 24), (0, 8, 14, 28)])
def zm_m62 : MethodName × ByteArray × Nat × Option FieldType × List (Nat × Nat × Nat × Nat) := (⟨"NeedMachine", "number", "()I"⟩, prog_1_method_5_code, 1, (some .int), [])
def zm_m63 : MethodName × ByteArray × Nat × Option FieldType × List (Nat × Nat × Nat × Nat) := (⟨"NeedMachineLaw", "head", "(LNeedMachine;[J)I"⟩, method_7_code, 3, (some .int), [(0, 8, 11, 24), (0, 8, 14, 26), (0, 8, 17, 15), (0, 8, 20, 28)])
def zm_m64 : MethodName × ByteArray × Nat × Option FieldType × List (Nat × Nat × Nat × Nat) := (⟨"NeedMachine", "head", "()I"⟩, prog_1_method_6_code, 3, (some .int), [])
def zm_m65 : MethodName × ByteArray × Nat × Option FieldType × List (Nat × Nat × Nat × Nat) := (⟨"NeedMachine", "takeResultPair", "()LNeedMachine$Value;"⟩, prog_1_method_11_code, 2, (some (.object "NeedMachine$Value")), [])
def zm_m66 : MethodName × ByteArray × Nat × Option FieldType × List (Nat × Nat × Nat × Nat) := (⟨"NeedMachineLaw", "tail", "(LNeedMachine;[J)I"⟩, method_8_code, 3, (some .int), [(0, 8, 11, 24), (0, 8, 14, 26), (0, 8, 17, 15), (0, 8, 20, 28)])
def zm_m67 : MethodName × ByteArray × Nat × Option FieldType × List (Nat × Nat × Nat × Nat) := (⟨"NeedMachine", "tail", "()I"⟩, prog_1_method_7_code, 2, (some .int), [])
def zm_m68 : MethodName × ByteArray × Nat × Option FieldType × List (Nat × Nat × Nat × Nat) := (⟨"NeedMachineLaw", "remove", "(LNeedMachine;I)I"⟩, method_9_code, 3, (some .int), [(0, 5, 8, 13), (0, 5, 11, 24)])
def zm_m69 : MethodName × ByteArray × Nat × Option FieldType × List (Nat × Nat × Nat × Nat) := (⟨"NeedMachine", "remove", "(I)V"⟩, prog_1_method_8_code, 2, none, [])
def zm_m70 : MethodName × ByteArray × Nat × Option FieldType × List (Nat × Nat × Nat × Nat) := (⟨"NeedMachineModel", "<init>", "()V"⟩, prog_10_method_1_code, 1, none, [])
def zm_m71 : MethodName × ByteArray × Nat × Option FieldType × List (Nat × Nat × Nat × Nat) := (⟨"NeedMachineModel", "type", "(J)I"⟩, prog_10_method_6_code, 7, (some .int), [])
def zm_m72 : MethodName × ByteArray × Nat × Option FieldType × List (Nat × Nat × Nat × Nat) := (⟨"NeedMachineModel", "between", "(III)Z"⟩, prog_10_method_3_code, 3, (some .boolean), [])
def zm_m73 : MethodName × ByteArray × Nat × Option FieldType × List (Nat × Nat × Nat × Nat) := (⟨"NeedMachineModel", "bad", "(Z)Z"⟩, prog_10_method_4_code, 2, (some .boolean), [])
def zm_m74 : MethodName × ByteArray × Nat × Option FieldType × List (Nat × Nat × Nat × Nat) := (⟨"NeedMachineModel", "fail", "(I)I"⟩, prog_10_method_5_code, 2, (some .int), [])
def zm_m75 : MethodName × ByteArray × Nat × Option FieldType × List (Nat × Nat × Nat × Nat) := (⟨"NeedMachineModel", "define", "()I"⟩, prog_10_method_12_code, 8, (some .int), [])
def zm_m76 : MethodName × ByteArray × Nat × Option FieldType × List (Nat × Nat × Nat × Nat) := (⟨"NeedMachineModel", "heading", "([I)I"⟩, prog_10_method_10_code, 4, (some .int), [])
def zm_m77 : MethodName × ByteArray × Nat × Option FieldType × List (Nat × Nat × Nat × Nat) := (⟨"NeedMachineModel", "look", "()I"⟩, prog_10_method_7_code, 1, (some .int), [])
def zm_m78 : MethodName × ByteArray × Nat × Option FieldType × List (Nat × Nat × Nat × Nat) := (⟨"NeedMachineModel", "read", "(I)Z"⟩, prog_10_method_9_code, 5, (some .boolean), [])
def zm_m79 : MethodName × ByteArray × Nat × Option FieldType × List (Nat × Nat × Nat × Nat) := (⟨"NeedMachineModel", "parts", "(I)I"⟩, prog_10_method_8_code, 1, (some .int), [])
def zm_m80 : MethodName × ByteArray × Nat × Option FieldType × List (Nat × Nat × Nat × Nat) := (⟨"NeedMachineModel", "store", "(I)I"⟩, prog_10_method_11_code, 4, (some .int), [])
def zm_m81 : MethodName × ByteArray × Nat × Option FieldType × List (Nat × Nat × Nat × Nat) := (⟨"NeedMachineModel", "ask", "()I"⟩, prog_10_method_32_code, 3, (some .int), [])
def zm_m82 : MethodName × ByteArray × Nat × Option FieldType × List (Nat × Nat × Nat × Nat) := (⟨"NeedMachineModel", "sweep", "()V"⟩, prog_10_method_13_code, 6, none, [])
def zm_m83 : MethodName × ByteArray × Nat × Option FieldType × List (Nat × Nat × Nat × Nat) := (⟨"NeedMachineModel", "skip", "(I)I"⟩, prog_10_method_14_code, 4, (some .int), [])
def zm_m84 : MethodName × ByteArray × Nat × Option FieldType × List (Nat × Nat × Nat × Nat) := (⟨"NeedMachineModel", "workOut", "(II)V"⟩, prog_10_method_30_code, 3, none, [])
def zm_m85 : MethodName × ByteArray × Nat × Option FieldType × List (Nat × Nat × Nat × Nat) := (⟨"NeedMachineModel", "push", "(II)V"⟩, prog_10_method_15_code, 3, none, [])
def zm_m86 : MethodName × ByteArray × Nat × Option FieldType × List (Nat × Nat × Nat × Nat) := (⟨"NeedMachineModel", "step", "()V"⟩, prog_10_method_29_code, 5, none, [])
def zm_m87 : MethodName × ByteArray × Nat × Option FieldType × List (Nat × Nat × Nat × Nat) := (⟨"NeedMachineModel", "keepValue", "()V"⟩, prog_10_method_21_code, 2, none, [])
def zm_m88 : MethodName × ByteArray × Nat × Option FieldType × List (Nat × Nat × Nat × Nat) := (⟨"NeedMachineModel", "giveClosure", "(I)V"⟩, prog_10_method_19_code, 2, none, [])
def zm_m89 : MethodName × ByteArray × Nat × Option FieldType × List (Nat × Nat × Nat × Nat) := (⟨"NeedMachineModel", "give", "(III)V"⟩, prog_10_method_16_code, 4, none, [])
def zm_m90 : MethodName × ByteArray × Nat × Option FieldType × List (Nat × Nat × Nat × Nat) := (⟨"NeedMachineModel", "goOn", "(II)V"⟩, prog_10_method_28_code, 5, none, [])
def zm_m91 : MethodName × ByteArray × Nat × Option FieldType × List (Nat × Nat × Nat × Nat) := (⟨"NeedMachineModel", "apply", "(I)V"⟩, prog_10_method_24_code, 6, none, [])
def zm_m92 : MethodName × ByteArray × Nat × Option FieldType × List (Nat × Nat × Nat × Nat) := (⟨"NeedMachineModel", "closureOf", "(II)I"⟩, prog_10_method_18_code, 3, (some .int), [])
def zm_m93 : MethodName × ByteArray × Nat × Option FieldType × List (Nat × Nat × Nat × Nat) := (⟨"NeedMachineModel", "parameterOf", "(II)I"⟩, prog_10_method_17_code, 4, (some .int), [])
def zm_m94 : MethodName × ByteArray × Nat × Option FieldType × List (Nat × Nat × Nat × Nat) := (⟨"NeedMachineModel", "countOf", "(I)I"⟩, prog_10_method_23_code, 4, (some .int), [])
def zm_m95 : MethodName × ByteArray × Nat × Option FieldType × List (Nat × Nat × Nat × Nat) := (⟨"NeedMachineModel", "call", "(III)V"⟩, prog_10_method_22_code, 7, none, [])
def zm_m96 : MethodName × ByteArray × Nat × Option FieldType × List (Nat × Nat × Nat × Nat) := (⟨"NeedMachineModel", "force", "(I)V"⟩, prog_10_method_20_code, 2, none, [])
def zm_m97 : MethodName × ByteArray × Nat × Option FieldType × List (Nat × Nat × Nat × Nat) := (⟨"NeedMachineModel", "isNumber", "()Z"⟩, prog_10_method_27_code, 1, (some .boolean), [])
def zm_m98 : MethodName × ByteArray × Nat × Option FieldType × List (Nat × Nat × Nat × Nat) := (⟨"NeedMachineModel", "binary", "(III)I"⟩, prog_10_method_26_code, 4, (some .int), [])
def zm_m99 : MethodName × ByteArray × Nat × Option FieldType × List (Nat × Nat × Nat × Nat) := (⟨"NeedMachineModel", "nameAt", "(I)V"⟩, prog_10_method_25_code, 2, none, [])
def zm_m100 : MethodName × ByteArray × Nat × Option FieldType × List (Nat × Nat × Nat × Nat) := (⟨"NeedMachineModel", "answer", "()I"⟩, prog_10_method_31_code, 1, (some .int), [])
def zm_m101 : MethodName × ByteArray × Nat × Option FieldType × List (Nat × Nat × Nat × Nat) := (⟨"NeedMachineModel", "number", "()I"⟩, prog_10_method_33_code, 1, (some .int), [])
def zm_m102 : MethodName × ByteArray × Nat × Option FieldType × List (Nat × Nat × Nat × Nat) := (⟨"NeedMachineModel", "head", "()I"⟩, prog_10_method_35_code, 1, (some .int), [])
def zm_m103 : MethodName × ByteArray × Nat × Option FieldType × List (Nat × Nat × Nat × Nat) := (⟨"NeedMachineModel", "side", "(Z)Z"⟩, prog_10_method_34_code, 3, (some .boolean), [])
def zm_m104 : MethodName × ByteArray × Nat × Option FieldType × List (Nat × Nat × Nat × Nat) := (⟨"NeedMachineModel", "tail", "()I"⟩, prog_10_method_36_code, 1, (some .int), [])
def zm_m105 : MethodName × ByteArray × Nat × Option FieldType × List (Nat × Nat × Nat × Nat) := (⟨"NeedMachineModel", "remove", "(I)V"⟩, prog_10_method_37_code, 2, none, [])
def zm_m106 : MethodName × ByteArray × Nat × Option FieldType × List (Nat × Nat × Nat × Nat) := (⟨"NeedMachineModel", "count", "(I)I"⟩, prog_10_method_38_code, 4, (some .int), [])
def zm_m107 : MethodName × ByteArray × Nat × Option FieldType × List (Nat × Nat × Nat × Nat) := (⟨"java/util/ArrayList", "size", "()I"⟩, prog_26_method_8_code, 1, (some .int), [])
def zm_m108 : MethodName × ByteArray × Nat × Option FieldType × List (Nat × Nat × Nat × Nat) := (⟨"java/util/ArrayList", "get", "(I)Ljava/lang/Object;"⟩, prog_26_method_20_code, 2, (some (.object "java/lang/Object")), [])
def zm_m109 : MethodName × ByteArray × Nat × Option FieldType × List (Nat × Nat × Nat × Nat) := (⟨"java/util/ArrayList", "elementData", "(I)Ljava/lang/Object;"⟩, prog_26_method_18_code, 2, (some (.object "java/lang/Object")), [])
def zm_m110 : MethodName × ByteArray × Nat × Option FieldType × List (Nat × Nat × Nat × Nat) := (⟨"java/util/ArrayList", "add", "(Ljava/lang/Object;)Z"⟩, prog_26_method_25_code, 2, (some .boolean), [])
def zm_m111 : MethodName × ByteArray × Nat × Option FieldType × List (Nat × Nat × Nat × Nat) := (⟨"java/util/ArrayList", "add", "(Ljava/lang/Object;[Ljava/lang/Object;I)V"⟩, prog_26_method_24_code, 4, none, [])
def zm_m112 : MethodName × ByteArray × Nat × Option FieldType × List (Nat × Nat × Nat × Nat) := (⟨"java/util/ArrayList", "grow", "()[Ljava/lang/Object;"⟩, prog_26_method_7_code, 1, (some (.array (.object "java/lang/Object"))), [])
def zm_m113 : MethodName × ByteArray × Nat × Option FieldType × List (Nat × Nat × Nat × Nat) := (⟨"java/util/ArrayList", "grow", "(I)[Ljava/lang/Object;"⟩, prog_26_method_6_code, 4, (some (.array (.object "java/lang/Object"))), [])
def zm_m114 : MethodName × ByteArray × Nat × Option FieldType × List (Nat × Nat × Nat × Nat) := (⟨"java/util/Objects", "checkIndex", "(II)I"⟩, prog_31_method_17_code, 2, (some .int), [])
def zm_m115 : MethodName × ByteArray × Nat × Option FieldType × List (Nat × Nat × Nat × Nat) := (⟨"jdk/internal/util/Preconditions", "checkIndex", "(IILjava/util/function/BiFunction;)I"⟩, prog_35_method_11_code, 3, (some .int), [])
def zm_m116 : MethodName × ByteArray × Nat × Option FieldType × List (Nat × Nat × Nat × Nat) := (⟨"jdk/internal/util/ArraysSupport", "newLength", "(III)I"⟩, prog_34_method_27_code, 4, (some .int), [])
def zm_m117 : MethodName × ByteArray × Nat × Option FieldType × List (Nat × Nat × Nat × Nat) := (⟨"java/util/Arrays", "copyOf", "([Ljava/lang/Object;I)[Ljava/lang/Object;"⟩, prog_27_method_119_code, 2, (some (.array (.object "java/lang/Object"))), [])
def zm_m118 : MethodName × ByteArray × Nat × Option FieldType × List (Nat × Nat × Nat × Nat) := (⟨"java/util/Arrays", "copyOf", "([Ljava/lang/Object;ILjava/lang/Class;)[Ljava/lang/Object;"⟩, prog_27_method_120_code, 4, (some (.array (.object "java/lang/Object"))), [])
def zm_md (mi : Nat) : MethodName × ByteArray × Nat × Option FieldType × List (Nat × Nat × Nat × Nat) := cond (Nat.blt mi 59) (cond (Nat.blt mi 29) (cond (Nat.blt mi 14) (cond (Nat.blt mi 7) (cond (Nat.blt mi 3) (cond (Nat.blt mi 1) (zm_m0) (cond (Nat.blt mi 2) (zm_m1) (zm_m2))) (cond (Nat.blt mi 5) (cond (Nat.blt mi 4) (zm_m3) (zm_m4)) (cond (Nat.blt mi 6) (zm_m5) (zm_m6)))) (cond (Nat.blt mi 10) (cond (Nat.blt mi 8) (zm_m7) (cond (Nat.blt mi 9) (zm_m8) (zm_m9))) (cond (Nat.blt mi 12) (cond (Nat.blt mi 11) (zm_m10) (zm_m11)) (cond (Nat.blt mi 13) (zm_m12) (zm_m13))))) (cond (Nat.blt mi 21) (cond (Nat.blt mi 17) (cond (Nat.blt mi 15) (zm_m14) (cond (Nat.blt mi 16) (zm_m15) (zm_m16))) (cond (Nat.blt mi 19) (cond (Nat.blt mi 18) (zm_m17) (zm_m18)) (cond (Nat.blt mi 20) (zm_m19) (zm_m20)))) (cond (Nat.blt mi 25) (cond (Nat.blt mi 23) (cond (Nat.blt mi 22) (zm_m21) (zm_m22)) (cond (Nat.blt mi 24) (zm_m23) (zm_m24))) (cond (Nat.blt mi 27) (cond (Nat.blt mi 26) (zm_m25) (zm_m26)) (cond (Nat.blt mi 28) (zm_m27) (zm_m28)))))) (cond (Nat.blt mi 44) (cond (Nat.blt mi 36) (cond (Nat.blt mi 32) (cond (Nat.blt mi 30) (zm_m29) (cond (Nat.blt mi 31) (zm_m30) (zm_m31))) (cond (Nat.blt mi 34) (cond (Nat.blt mi 33) (zm_m32) (zm_m33)) (cond (Nat.blt mi 35) (zm_m34) (zm_m35)))) (cond (Nat.blt mi 40) (cond (Nat.blt mi 38) (cond (Nat.blt mi 37) (zm_m36) (zm_m37)) (cond (Nat.blt mi 39) (zm_m38) (zm_m39))) (cond (Nat.blt mi 42) (cond (Nat.blt mi 41) (zm_m40) (zm_m41)) (cond (Nat.blt mi 43) (zm_m42) (zm_m43))))) (cond (Nat.blt mi 51) (cond (Nat.blt mi 47) (cond (Nat.blt mi 45) (zm_m44) (cond (Nat.blt mi 46) (zm_m45) (zm_m46))) (cond (Nat.blt mi 49) (cond (Nat.blt mi 48) (zm_m47) (zm_m48)) (cond (Nat.blt mi 50) (zm_m49) (zm_m50)))) (cond (Nat.blt mi 55) (cond (Nat.blt mi 53) (cond (Nat.blt mi 52) (zm_m51) (zm_m52)) (cond (Nat.blt mi 54) (zm_m53) (zm_m54))) (cond (Nat.blt mi 57) (cond (Nat.blt mi 56) (zm_m55) (zm_m56)) (cond (Nat.blt mi 58) (zm_m57) (zm_m58))))))) (cond (Nat.blt mi 89) (cond (Nat.blt mi 74) (cond (Nat.blt mi 66) (cond (Nat.blt mi 62) (cond (Nat.blt mi 60) (zm_m59) (cond (Nat.blt mi 61) (zm_m60) (zm_m61))) (cond (Nat.blt mi 64) (cond (Nat.blt mi 63) (zm_m62) (zm_m63)) (cond (Nat.blt mi 65) (zm_m64) (zm_m65)))) (cond (Nat.blt mi 70) (cond (Nat.blt mi 68) (cond (Nat.blt mi 67) (zm_m66) (zm_m67)) (cond (Nat.blt mi 69) (zm_m68) (zm_m69))) (cond (Nat.blt mi 72) (cond (Nat.blt mi 71) (zm_m70) (zm_m71)) (cond (Nat.blt mi 73) (zm_m72) (zm_m73))))) (cond (Nat.blt mi 81) (cond (Nat.blt mi 77) (cond (Nat.blt mi 75) (zm_m74) (cond (Nat.blt mi 76) (zm_m75) (zm_m76))) (cond (Nat.blt mi 79) (cond (Nat.blt mi 78) (zm_m77) (zm_m78)) (cond (Nat.blt mi 80) (zm_m79) (zm_m80)))) (cond (Nat.blt mi 85) (cond (Nat.blt mi 83) (cond (Nat.blt mi 82) (zm_m81) (zm_m82)) (cond (Nat.blt mi 84) (zm_m83) (zm_m84))) (cond (Nat.blt mi 87) (cond (Nat.blt mi 86) (zm_m85) (zm_m86)) (cond (Nat.blt mi 88) (zm_m87) (zm_m88)))))) (cond (Nat.blt mi 104) (cond (Nat.blt mi 96) (cond (Nat.blt mi 92) (cond (Nat.blt mi 90) (zm_m89) (cond (Nat.blt mi 91) (zm_m90) (zm_m91))) (cond (Nat.blt mi 94) (cond (Nat.blt mi 93) (zm_m92) (zm_m93)) (cond (Nat.blt mi 95) (zm_m94) (zm_m95)))) (cond (Nat.blt mi 100) (cond (Nat.blt mi 98) (cond (Nat.blt mi 97) (zm_m96) (zm_m97)) (cond (Nat.blt mi 99) (zm_m98) (zm_m99))) (cond (Nat.blt mi 102) (cond (Nat.blt mi 101) (zm_m100) (zm_m101)) (cond (Nat.blt mi 103) (zm_m102) (zm_m103))))) (cond (Nat.blt mi 111) (cond (Nat.blt mi 107) (cond (Nat.blt mi 105) (zm_m104) (cond (Nat.blt mi 106) (zm_m105) (zm_m106))) (cond (Nat.blt mi 109) (cond (Nat.blt mi 108) (zm_m107) (zm_m108)) (cond (Nat.blt mi 110) (zm_m109) (zm_m110)))) (cond (Nat.blt mi 115) (cond (Nat.blt mi 113) (cond (Nat.blt mi 112) (zm_m111) (zm_m112)) (cond (Nat.blt mi 114) (zm_m113) (zm_m114))) (cond (Nat.blt mi 117) (cond (Nat.blt mi 116) (zm_m115) (zm_m116)) (cond (Nat.blt mi 118) (zm_m117) (zm_m118)))))))
def zm_mn (mi : Nat) : MethodName := (zm_md mi).1
def zm_by (mi : Nat) : ByteArray := (zm_md mi).2.1
def zm_nl (mi : Nat) : Nat := (zm_md mi).2.2.1
def zm_rt (mi : Nat) : Option FieldType := (zm_md mi).2.2.2.1
def zm_hd (mi : Nat) : List (Nat × Nat × Nat × Nat) := (zm_md mi).2.2.2.2
abbrev zm_I : Type := Instr × Nat × Nat × Int
def zm_lk (l : List (Nat × zm_I)) (pc : Nat) : Option zm_I := match l with
  | [] => none
  | q :: r => if Nat.beq q.1 pc = true then some q.2 else zm_lk r pc
/-- NeedMachineLaw.law([I)Z -/
def zm_c0_0 : List (Nat × zm_I) := [(0, .new 8, 0, 0, 0), (3, .dup, 0, 0, 0), (4, .invokespecial 43, 0, 0, 0), (7, .astore_n 1, 0, 0, 0), (8, .new 44, 5, 0, 0), (11, .dup, 0, 0, 0)]
def zm_c0_1 : List (Nat × zm_I) := [(12, .invokespecial 46, 0, 0, 0), (15, .astore_n 2, 0, 0, 0), (16, .iconst 1, 0, 0, 0), (17, .newarray .long, 2, 0, 0), (19, .astore_n 3, 0, 0, 0), (20, .iconst 0, 0, 0, 0)]
def zm_c0_2 : List (Nat × zm_I) := [(21, .istore 4, 0, 0, 0), (23, .iload 4, 0, 0, 0), (25, .aload_n 0, 0, 0, 0), (26, .arraylength, 0, 0, 0), (27, .iconst 3, 0, 0, 0), (28, .isub, 0, 0, 0)]
def zm_c0_3 : List (Nat × zm_I) := [(29, .if_icmp .gt 251, 0, 0, 0), (32, .aload_n 0, 0, 0, 0), (33, .iload 4, 0, 0, 0), (35, .iaload, 0, 0, 0), (36, .bipush 7, 0, 0, 0), (38, .iand, 0, 0, 0)]
def zm_c0_4 : List (Nat × zm_I) := [(39, .tableswitch 235 0 7 #[45, 105, 121, 137, 153, 169, 185, 210], 45, 0, 0), (84, .aload_n 1, 0, 0, 0), (85, .aload_n 0, 0, 0, 0), (86, .iload 4, 0, 0, 0), (88, .iconst 1, 0, 0, 0), (89, .iadd, 0, 0, 0)]
def zm_c0_5 : List (Nat × zm_I) := [(90, .iaload, 0, 0, 0), (91, .i2l, 0, 0, 0), (92, .bipush 32, 0, 0, 0), (94, .lshl, 0, 0, 0), (95, .aload_n 0, 0, 0, 0), (96, .iload 4, 0, 0, 0)]
def zm_c0_6 : List (Nat × zm_I) := [(98, .iconst 2, 0, 0, 0), (99, .iadd, 0, 0, 0), (100, .iaload, 0, 0, 0), (101, .i2l, 0, 0, 0), (102, .ldc2_w 47, 0, 0, 4294967295), (105, .land, 0, 0, 0)]
def zm_c0_7 : List (Nat × zm_I) := [(106, .lor, 0, 0, 0), (107, .aload_n 3, 0, 0, 0), (108, .invokestatic 49, 0, 0, 0), (111, .istore 5, 0, 0, 0), (113, .aload_n 2, 0, 0, 0), (114, .aload_n 0, 0, 0, 0)]
def zm_c0_8 : List (Nat × zm_I) := [(115, .iload 4, 0, 0, 0), (117, .iconst 1, 0, 0, 0), (118, .iadd, 0, 0, 0), (119, .iaload, 0, 0, 0), (120, .i2l, 0, 0, 0), (121, .bipush 32, 0, 0, 0)]
def zm_c0_9 : List (Nat × zm_I) := [(123, .lshl, 0, 0, 0), (124, .aload_n 0, 0, 0, 0), (125, .iload 4, 0, 0, 0), (127, .iconst 2, 0, 0, 0), (128, .iadd, 0, 0, 0), (129, .iaload, 0, 0, 0)]
def zm_c0_10 : List (Nat × zm_I) := [(130, .i2l, 0, 0, 0), (131, .ldc2_w 47, 0, 0, 4294967295), (134, .land, 0, 0, 0), (135, .lor, 0, 0, 0), (136, .invokevirtual 54, 0, 0, 0), (139, .istore 6, 0, 0, 0)]
def zm_c0_11 : List (Nat × zm_I) := [(141, .goto 133, 0, 0, 0), (144, .aload_n 1, 0, 0, 0), (145, .aload_n 3, 0, 0, 0), (146, .invokestatic 55, 0, 0, 0), (149, .istore 5, 0, 0, 0), (151, .aload_n 2, 0, 0, 0)]
def zm_c0_12 : List (Nat × zm_I) := [(152, .invokevirtual 58, 0, 0, 0), (155, .istore 6, 0, 0, 0), (157, .goto 117, 0, 0, 0), (160, .aload_n 1, 0, 0, 0), (161, .aload_n 3, 0, 0, 0), (162, .invokestatic 59, 0, 0, 0)]
def zm_c0_13 : List (Nat × zm_I) := [(165, .istore 5, 0, 0, 0), (167, .aload_n 2, 0, 0, 0), (168, .invokevirtual 61, 0, 0, 0), (171, .istore 6, 0, 0, 0), (173, .goto 101, 0, 0, 0), (176, .aload_n 1, 0, 0, 0)]
def zm_c0_14 : List (Nat × zm_I) := [(177, .aload_n 3, 0, 0, 0), (178, .invokestatic 62, 0, 0, 0), (181, .istore 5, 0, 0, 0), (183, .aload_n 2, 0, 0, 0), (184, .invokevirtual 64, 0, 0, 0), (187, .istore 6, 0, 0, 0)]
def zm_c0_15 : List (Nat × zm_I) := [(189, .goto 85, 0, 0, 0), (192, .aload_n 1, 0, 0, 0), (193, .aload_n 3, 0, 0, 0), (194, .invokestatic 65, 0, 0, 0), (197, .istore 5, 0, 0, 0), (199, .aload_n 2, 0, 0, 0)]
def zm_c0_16 : List (Nat × zm_I) := [(200, .invokevirtual 67, 0, 0, 0), (203, .istore 6, 0, 0, 0), (205, .goto 69, 0, 0, 0), (208, .aload_n 1, 0, 0, 0), (209, .aload_n 3, 0, 0, 0), (210, .invokestatic 68, 0, 0, 0)]
def zm_c0_17 : List (Nat × zm_I) := [(213, .istore 5, 0, 0, 0), (215, .aload_n 2, 0, 0, 0), (216, .invokevirtual 70, 0, 0, 0), (219, .istore 6, 0, 0, 0), (221, .goto 53, 0, 0, 0), (224, .aload_n 1, 0, 0, 0)]
def zm_c0_18 : List (Nat × zm_I) := [(225, .aload_n 0, 0, 0, 0), (226, .iload 4, 0, 0, 0), (228, .iconst 1, 0, 0, 0), (229, .iadd, 0, 0, 0), (230, .iaload, 0, 0, 0), (231, .invokestatic 71, 0, 0, 0)]
def zm_c0_19 : List (Nat × zm_I) := [(234, .istore 5, 0, 0, 0), (236, .aload_n 2, 0, 0, 0), (237, .aload_n 0, 0, 0, 0), (238, .iload 4, 0, 0, 0), (240, .iconst 1, 0, 0, 0), (241, .iadd, 0, 0, 0)]
def zm_c0_20 : List (Nat × zm_I) := [(242, .iaload, 0, 0, 0), (243, .invokevirtual 74, 0, 0, 0), (246, .goto 28, 0, 0, 0), (249, .aload_n 1, 0, 0, 0), (250, .aload_n 0, 0, 0, 0), (251, .iload 4, 0, 0, 0)]
def zm_c0_21 : List (Nat × zm_I) := [(253, .iconst 1, 0, 0, 0), (254, .iadd, 0, 0, 0), (255, .iaload, 0, 0, 0), (256, .invokevirtual 75, 0, 0, 0), (259, .aload_n 2, 0, 0, 0), (260, .aload_n 0, 0, 0, 0)]
def zm_c0_22 : List (Nat × zm_I) := [(261, .iload 4, 0, 0, 0), (263, .iconst 1, 0, 0, 0), (264, .iadd, 0, 0, 0), (265, .iaload, 0, 0, 0), (266, .invokevirtual 79, 0, 0, 0), (269, .if_icmp .eq 5, 0, 0, 0)]
def zm_c0_23 : List (Nat × zm_I) := [(272, .iconst 0, 0, 0, 0), (273, .ireturn, 0, 0, 0), (274, .iinc 4 3, 0, 0, 0), (277, .goto (-254), 0, 0, 0), (280, .iconst 1, 0, 0, 0), (281, .ireturn, 0, 0, 0)]
def zm_g0 (pc : Nat) : Option zm_I := cond (Nat.blt pc 152) (cond (Nat.blt pc 98) (cond (Nat.blt pc 29) (cond (Nat.blt pc 12) (zm_lk zm_c0_0 pc) (cond (Nat.blt pc 21) (zm_lk zm_c0_1 pc) (zm_lk zm_c0_2 pc))) (cond (Nat.blt pc 39) (zm_lk zm_c0_3 pc) (cond (Nat.blt pc 90) (zm_lk zm_c0_4 pc) (zm_lk zm_c0_5 pc)))) (cond (Nat.blt pc 123) (cond (Nat.blt pc 106) (zm_lk zm_c0_6 pc) (cond (Nat.blt pc 115) (zm_lk zm_c0_7 pc) (zm_lk zm_c0_8 pc))) (cond (Nat.blt pc 130) (zm_lk zm_c0_9 pc) (cond (Nat.blt pc 141) (zm_lk zm_c0_10 pc) (zm_lk zm_c0_11 pc))))) (cond (Nat.blt pc 225) (cond (Nat.blt pc 189) (cond (Nat.blt pc 165) (zm_lk zm_c0_12 pc) (cond (Nat.blt pc 177) (zm_lk zm_c0_13 pc) (zm_lk zm_c0_14 pc))) (cond (Nat.blt pc 200) (zm_lk zm_c0_15 pc) (cond (Nat.blt pc 213) (zm_lk zm_c0_16 pc) (zm_lk zm_c0_17 pc)))) (cond (Nat.blt pc 253) (cond (Nat.blt pc 234) (zm_lk zm_c0_18 pc) (cond (Nat.blt pc 242) (zm_lk zm_c0_19 pc) (zm_lk zm_c0_20 pc))) (cond (Nat.blt pc 261) (zm_lk zm_c0_21 pc) (cond (Nat.blt pc 272) (zm_lk zm_c0_22 pc) (zm_lk zm_c0_23 pc)))))
/-- NeedMachine.<init>()V -/
def zm_c1_0 : List (Nat × zm_I) := [(0, .aload_n 0, 0, 0, 0), (1, .invokespecial 1, 0, 0, 0), (4, .aload_n 0, 0, 0, 0), (5, .new 7, 1, 0, 0), (8, .dup, 0, 0, 0), (9, .invokespecial 9, 0, 0, 0)]
def zm_c1_1 : List (Nat × zm_I) := [(12, .putfield 10, 0, 0, 0), (15, .aload_n 0, 0, 0, 0), (16, .new 16, 2, 0, 0), (19, .dup, 0, 0, 0), (20, .invokespecial 18, 0, 0, 0), (23, .putfield 19, 0, 1, 0)]
def zm_c1_2 : List (Nat × zm_I) := [(26, .aload_n 0, 0, 0, 0), (27, .bipush 6, 0, 0, 0), (29, .anewarray 23, 4, 0, 0), (32, .putfield 25, 0, 2, 0), (35, .return_, 0, 0, 0)]
def zm_g1 (pc : Nat) : Option zm_I := cond (Nat.blt pc 12) (zm_lk zm_c1_0 pc) (cond (Nat.blt pc 26) (zm_lk zm_c1_1 pc) (zm_lk zm_c1_2 pc))
/-- java/lang/Object.<init>()V -/
def zm_c2_0 : List (Nat × zm_I) := [(0, .return_, 0, 0, 0)]
def zm_g2 (pc : Nat) : Option zm_I := zm_lk zm_c2_0 pc
/-- NeedMachine$Text.<init>()V -/
def zm_c3_0 : List (Nat × zm_I) := [(0, .aload_n 0, 0, 0, 0), (1, .invokespecial 3, 0, 0, 0), (4, .aload_n 0, 0, 0, 0), (5, .iconst (-1), 0, 0, 0), (6, .putfield 9, 1, 1, 0), (9, .aload_n 0, 0, 0, 0)]
def zm_c3_1 : List (Nat × zm_I) := [(10, .bipush 40, 0, 0, 0), (12, .newarray .char, 1, 0, 0), (14, .putfield 15, 1, 2, 0), (17, .aload_n 0, 0, 0, 0), (18, .iconst 4, 0, 0, 0), (19, .newarray .char, 1, 0, 0)]
def zm_c3_2 : List (Nat × zm_I) := [(21, .putfield 19, 1, 3, 0), (24, .return_, 0, 0, 0)]
def zm_g3 (pc : Nat) : Option zm_I := cond (Nat.blt pc 10) (zm_lk zm_c3_0 pc) (cond (Nat.blt pc 21) (zm_lk zm_c3_1 pc) (zm_lk zm_c3_2 pc))
/-- NeedMachine$Store.<init>()V -/
def zm_c4_0 : List (Nat × zm_I) := [(0, .aload_n 0, 0, 0, 0), (1, .invokespecial 3, 0, 0, 0), (4, .aload_n 0, 0, 0, 0), (5, .new 9, 3, 0, 0), (8, .dup, 0, 0, 0), (9, .invokespecial 11, 0, 0, 0)]
def zm_c4_1 : List (Nat × zm_I) := [(12, .putfield 12, 2, 0, 0), (15, .aload_n 0, 0, 0, 0), (16, .getfield 12, 2, 0, 0), (19, .iconst 1, 0, 0, 0), (20, .putfield 18, 3, 0, 0), (23, .aload_n 0, 0, 0, 0)]
def zm_c4_2 : List (Nat × zm_I) := [(24, .new 22, 4, 0, 0), (27, .dup, 0, 0, 0), (28, .invokespecial 24, 0, 0, 0), (31, .putfield 25, 2, 1, 0), (34, .aload_n 0, 0, 0, 0), (35, .new 22, 4, 0, 0)]
def zm_c4_3 : List (Nat × zm_I) := [(38, .dup, 0, 0, 0), (39, .invokespecial 24, 0, 0, 0), (42, .putfield 29, 2, 2, 0), (45, .aload_n 0, 0, 0, 0), (46, .new 22, 4, 0, 0), (49, .dup, 0, 0, 0)]
def zm_c4_4 : List (Nat × zm_I) := [(50, .invokespecial 24, 0, 0, 0), (53, .putfield 32, 2, 3, 0), (56, .return_, 0, 0, 0)]
def zm_g4 (pc : Nat) : Option zm_I := cond (Nat.blt pc 24) (cond (Nat.blt pc 12) (zm_lk zm_c4_0 pc) (zm_lk zm_c4_1 pc)) (cond (Nat.blt pc 38) (zm_lk zm_c4_2 pc) (cond (Nat.blt pc 50) (zm_lk zm_c4_3 pc) (zm_lk zm_c4_4 pc)))
/-- NeedMachine$Value.<init>()V -/
def zm_c5_0 : List (Nat × zm_I) := [(0, .aload_n 0, 0, 0, 0), (1, .invokespecial 1, 0, 0, 0), (4, .return_, 0, 0, 0)]
def zm_g5 (pc : Nat) : Option zm_I := zm_lk zm_c5_0 pc
/-- java/util/ArrayList.<init>()V -/
def zm_c6_0 : List (Nat × zm_I) := [(0, .aload_n 0, 0, 0, 0), (1, .invokespecial 1, 0, 0, 0), (4, .aload_n 0, 0, 0, 0), (5, .getstatic 39, 1, 0, 0), (8, .putfield 9, 4, 0, 0), (11, .return_, 0, 0, 0)]
def zm_g6 (pc : Nat) : Option zm_I := zm_lk zm_c6_0 pc
/-- java/util/AbstractList.<init>()V -/
def zm_c7_0 : List (Nat × zm_I) := [(0, .aload_n 0, 0, 0, 0), (1, .invokespecial 1, 0, 0, 0), (4, .aload_n 0, 0, 0, 0), (5, .iconst 0, 0, 0, 0), (6, .putfield 7, 4, 2, 0), (9, .return_, 0, 0, 0)]
def zm_g7 (pc : Nat) : Option zm_I := zm_lk zm_c7_0 pc
/-- java/util/AbstractCollection.<init>()V -/
def zm_c8_0 : List (Nat × zm_I) := [(0, .aload_n 0, 0, 0, 0), (1, .invokespecial 1, 0, 0, 0), (4, .return_, 0, 0, 0)]
def zm_g8 (pc : Nat) : Option zm_I := zm_lk zm_c8_0 pc
/-- NeedMachine.count(I)I -/
def zm_c9_0 : List (Nat × zm_I) := [(0, .iload_n 1, 0, 0, 0), (1, .tableswitch 93 0 7 #[47, 55, 63, 68, 73, 78, 83, 88], 47, 0, 0), (48, .aload_n 0, 0, 0, 0), (49, .getfield 10, 0, 0, 0), (52, .getfield 105, 1, 1, 0), (55, .ireturn, 0, 0, 0)]
def zm_c9_1 : List (Nat × zm_I) := [(56, .aload_n 0, 0, 0, 0), (57, .getfield 10, 0, 0, 0), (60, .getfield 108, 1, 0, 0), (63, .ireturn, 0, 0, 0), (64, .aload_n 0, 0, 0, 0), (65, .invokevirtual 111, 0, 0, 0)]
def zm_c9_2 : List (Nat × zm_I) := [(68, .ireturn, 0, 0, 0), (69, .aload_n 0, 0, 0, 0), (70, .getfield 55, 0, 4, 0), (73, .ireturn, 0, 0, 0), (74, .aload_n 0, 0, 0, 0), (75, .getfield 115, 0, 5, 0)]
def zm_c9_3 : List (Nat × zm_I) := [(78, .ireturn, 0, 0, 0), (79, .aload_n 0, 0, 0, 0), (80, .getfield 118, 0, 6, 0), (83, .ireturn, 0, 0, 0), (84, .aload_n 0, 0, 0, 0), (85, .getfield 121, 0, 7, 0)]
def zm_c9_4 : List (Nat × zm_I) := [(88, .ireturn, 0, 0, 0), (89, .aload_n 0, 0, 0, 0), (90, .getfield 58, 0, 8, 0), (93, .ireturn, 0, 0, 0), (94, .iconst (-1), 0, 0, 0), (95, .ireturn, 0, 0, 0)]
def zm_g9 (pc : Nat) : Option zm_I := cond (Nat.blt pc 68) (cond (Nat.blt pc 56) (zm_lk zm_c9_0 pc) (zm_lk zm_c9_1 pc)) (cond (Nat.blt pc 78) (zm_lk zm_c9_2 pc) (cond (Nat.blt pc 88) (zm_lk zm_c9_3 pc) (zm_lk zm_c9_4 pc)))
/-- NeedMachine.countDefinitions()I -/
def zm_c10_0 : List (Nat × zm_I) := [(0, .iconst 0, 0, 0, 0), (1, .istore_n 1, 0, 0, 0), (2, .aload_n 0, 0, 0, 0), (3, .getfield 25, 0, 2, 0), (6, .astore_n 2, 0, 0, 0), (7, .aload_n 2, 0, 0, 0)]
def zm_c10_1 : List (Nat × zm_I) := [(8, .arraylength, 0, 0, 0), (9, .istore_n 3, 0, 0, 0), (10, .iconst 0, 0, 0, 0), (11, .istore 4, 0, 0, 0), (13, .iload 4, 0, 0, 0), (15, .iload_n 3, 0, 0, 0)]
def zm_c10_2 : List (Nat × zm_I) := [(16, .if_icmp .ge 23, 0, 0, 0), (19, .aload_n 2, 0, 0, 0), (20, .iload 4, 0, 0, 0), (22, .aaload, 0, 0, 0), (23, .astore 5, 0, 0, 0), (25, .aload 5, 0, 0, 0)]
def zm_c10_3 : List (Nat × zm_I) := [(27, .ifnull 6, 0, 0, 0), (30, .iinc 1 1, 0, 0, 0), (33, .iinc 4 1, 0, 0, 0), (36, .goto (-23), 0, 0, 0), (39, .iload_n 1, 0, 0, 0), (40, .ireturn, 0, 0, 0)]
def zm_g10 (pc : Nat) : Option zm_I := cond (Nat.blt pc 16) (cond (Nat.blt pc 8) (zm_lk zm_c10_0 pc) (zm_lk zm_c10_1 pc)) (cond (Nat.blt pc 27) (zm_lk zm_c10_2 pc) (zm_lk zm_c10_3 pc))
/-- NeedMachineLaw.type(LNeedMachine;J[J)I -/
def zm_c11_0 : List (Nat × zm_I) := [(0, .aload_n 3, 0, 0, 0), (1, .iconst 0, 0, 0, 0), (2, .aload_n 0, 0, 0, 0), (3, .lload_n 1, 0, 0, 0), (4, .invokevirtual 7, 0, 0, 0), (7, .i2l, 0, 0, 0)]
def zm_c11_1 : List (Nat × zm_I) := [(8, .lastore, 0, 0, 0), (9, .goto 11, 0, 0, 0), (12, .astore 4, 0, 0, 0), (14, .iconst 1, 0, 0, 0), (15, .ireturn, 0, 0, 0), (16, .astore 4, 0, 0, 0)]
def zm_c11_2 : List (Nat × zm_I) := [(18, .iconst 2, 0, 0, 0), (19, .ireturn, 0, 0, 0), (20, .iconst 0, 0, 0, 0), (21, .ireturn, 0, 0, 0)]
def zm_g11 (pc : Nat) : Option zm_I := cond (Nat.blt pc 8) (zm_lk zm_c11_0 pc) (cond (Nat.blt pc 18) (zm_lk zm_c11_1 pc) (zm_lk zm_c11_2 pc))
/-- NeedMachine.type(J)I -/
def zm_c12_0 : List (Nat × zm_I) := [(0, .aload_n 0, 0, 0, 0), (1, .getfield 10, 0, 0, 0), (4, .lload_n 1, 0, 0, 0), (5, .invokevirtual 29, 0, 0, 0), (8, .ireturn, 0, 0, 0)]
def zm_g12 (pc : Nat) : Option zm_I := zm_lk zm_c12_0 pc
/-- NeedMachine$Text.add(J)I -/
def zm_c13_0 : List (Nat × zm_I) := [(0, .iconst 0, 0, 0, 0), (1, .istore_n 3, 0, 0, 0), (2, .bipush 56, 0, 0, 0), (4, .istore 4, 0, 0, 0), (6, .iload 4, 0, 0, 0), (8, .ifCond .lt 59, 0, 0, 0)]
def zm_c13_1 : List (Nat × zm_I) := [(11, .lload_n 1, 0, 0, 0), (12, .iload 4, 0, 0, 0), (14, .invokestatic 22, 0, 0, 0), (17, .istore 5, 0, 0, 0), (19, .iload 5, 0, 0, 0), (21, .ifCond .eq 27, 0, 0, 0)]
def zm_c13_2 : List (Nat × zm_I) := [(24, .iload 5, 0, 0, 0), (26, .bipush 33, 0, 0, 0), (28, .if_icmp .lt 10, 0, 0, 0), (31, .iload 5, 0, 0, 0), (33, .bipush 126, 0, 0, 0), (35, .if_icmp .le 13, 0, 0, 0)]
def zm_c13_3 : List (Nat × zm_I) := [(48, .iload_n 3, 0, 0, 0), (49, .iload 5, 0, 0, 0), (51, .ifCond .eq 7, 0, 0, 0), (54, .iconst 1, 0, 0, 0), (55, .goto 4, 0, 0, 0), (58, .iconst 0, 0, 0, 0)]
def zm_c13_4 : List (Nat × zm_I) := [(59, .iadd, 0, 0, 0), (60, .istore_n 3, 0, 0, 0), (61, .iinc 4 (-8), 0, 0, 0), (64, .goto (-58), 0, 0, 0), (67, .aload_n 0, 0, 0, 0), (68, .getfield 33, 1, 0, 0)]
def zm_c13_5 : List (Nat × zm_I) := [(71, .iload_n 3, 0, 0, 0), (72, .iadd, 0, 0, 0), (73, .bipush 40, 0, 0, 0), (75, .if_icmp .le 13, 0, 0, 0), (88, .bipush 56, 0, 0, 0), (90, .istore 4, 0, 0, 0)]
def zm_c13_6 : List (Nat × zm_I) := [(92, .iload 4, 0, 0, 0), (94, .ifCond .lt 44, 0, 0, 0), (97, .lload_n 1, 0, 0, 0), (98, .iload 4, 0, 0, 0), (100, .invokestatic 22, 0, 0, 0), (103, .istore 5, 0, 0, 0)]
def zm_c13_7 : List (Nat × zm_I) := [(105, .iload 5, 0, 0, 0), (107, .ifCond .eq 25, 0, 0, 0), (110, .aload_n 0, 0, 0, 0), (111, .getfield 15, 1, 2, 0), (114, .aload_n 0, 0, 0, 0), (115, .getfield 33, 1, 0, 0)]
def zm_c13_8 : List (Nat × zm_I) := [(118, .iload 5, 0, 0, 0), (120, .i2c, 0, 0, 0), (121, .castore, 0, 0, 0), (122, .aload_n 0, 0, 0, 0), (123, .dup, 0, 0, 0), (124, .getfield 33, 1, 0, 0)]
def zm_c13_9 : List (Nat × zm_I) := [(127, .iconst 1, 0, 0, 0), (128, .iadd, 0, 0, 0), (129, .putfield 33, 1, 0, 0), (132, .iinc 4 (-8), 0, 0, 0), (135, .goto (-43), 0, 0, 0), (138, .aload_n 0, 0, 0, 0)]
def zm_c13_10 : List (Nat × zm_I) := [(139, .getfield 33, 1, 0, 0), (142, .ireturn, 0, 0, 0)]
def zm_g13 (pc : Nat) : Option zm_I := cond (Nat.blt pc 71) (cond (Nat.blt pc 24) (cond (Nat.blt pc 11) (zm_lk zm_c13_0 pc) (zm_lk zm_c13_1 pc)) (cond (Nat.blt pc 48) (zm_lk zm_c13_2 pc) (cond (Nat.blt pc 59) (zm_lk zm_c13_3 pc) (zm_lk zm_c13_4 pc)))) (cond (Nat.blt pc 118) (cond (Nat.blt pc 92) (zm_lk zm_c13_5 pc) (cond (Nat.blt pc 105) (zm_lk zm_c13_6 pc) (zm_lk zm_c13_7 pc))) (cond (Nat.blt pc 127) (zm_lk zm_c13_8 pc) (cond (Nat.blt pc 139) (zm_lk zm_c13_9 pc) (zm_lk zm_c13_10 pc))))
/-- NeedMachine$Text.byteAt(JI)I -/
def zm_c14_0 : List (Nat × zm_I) := [(0, .lload_n 0, 0, 0, 0), (1, .iload_n 2, 0, 0, 0), (2, .lushr, 0, 0, 0), (3, .l2i, 0, 0, 0), (4, .sipush 255, 0, 0, 0), (7, .iand, 0, 0, 0)]
def zm_c14_1 : List (Nat × zm_I) := [(8, .ireturn, 0, 0, 0)]
def zm_g14 (pc : Nat) : Option zm_I := cond (Nat.blt pc 8) (zm_lk zm_c14_0 pc) (zm_lk zm_c14_1 pc)
/-- NeedMachineLaw.define(LNeedMachine;[J)I -/
def zm_c15_0 : List (Nat × zm_I) := [(0, .aload_n 1, 0, 0, 0), (1, .iconst 0, 0, 0, 0), (2, .aload_n 0, 0, 0, 0), (3, .invokevirtual 17, 0, 0, 0), (6, .i2l, 0, 0, 0), (7, .lastore, 0, 0, 0)]
def zm_c15_1 : List (Nat × zm_I) := [(8, .goto 6, 0, 0, 0), (11, .astore_n 2, 0, 0, 0), (12, .iconst 1, 0, 0, 0), (13, .ireturn, 0, 0, 0), (14, .iconst 0, 0, 0, 0), (15, .ireturn, 0, 0, 0)]
def zm_g15 (pc : Nat) : Option zm_I := cond (Nat.blt pc 8) (zm_lk zm_c15_0 pc) (zm_lk zm_c15_1 pc)
/-- NeedMachine.define()I -/
def zm_c16_0 : List (Nat × zm_I) := [(0, .aload_n 0, 0, 0, 0), (1, .getfield 10, 0, 0, 0), (4, .invokevirtual 33, 0, 0, 0), (7, .astore_n 1, 0, 0, 0), (8, .aload_n 0, 0, 0, 0), (9, .getfield 25, 0, 2, 0)]
def zm_c16_1 : List (Nat × zm_I) := [(12, .aload_n 1, 0, 0, 0), (13, .getfield 37, 6, 0, 0), (16, .aload_n 1, 0, 0, 0), (17, .aastore, 0, 0, 0), (18, .aload_n 1, 0, 0, 0), (19, .getfield 41, 6, 1, 0)]
def zm_c16_2 : List (Nat × zm_I) := [(22, .ireturn, 0, 0, 0)]
def zm_g16 (pc : Nat) : Option zm_I := cond (Nat.blt pc 12) (zm_lk zm_c16_0 pc) (cond (Nat.blt pc 22) (zm_lk zm_c16_1 pc) (zm_lk zm_c16_2 pc))
/-- NeedMachine$Text.readDefinition()LNeedMachine$Definition; -/
def zm_c17_0 : List (Nat × zm_I) := [(0, .aload_n 0, 0, 0, 0), (1, .invokevirtual 41, 0, 0, 0), (4, .aload_n 0, 0, 0, 0), (5, .aload_n 0, 0, 0, 0), (6, .getfield 44, 1, 6, 0), (9, .aload_n 0, 0, 0, 0)]
def zm_c17_1 : List (Nat × zm_I) := [(10, .getfield 47, 1, 5, 0), (13, .if_icmp .ge 22, 0, 0, 0), (16, .aload_n 0, 0, 0, 0), (17, .getfield 15, 1, 2, 0), (20, .aload_n 0, 0, 0, 0), (21, .getfield 44, 1, 6, 0)]
def zm_c17_2 : List (Nat × zm_I) := [(24, .caload, 0, 0, 0), (25, .invokestatic 50, 0, 0, 0), (28, .ifCond .eq 7, 0, 0, 0), (31, .iconst 1, 0, 0, 0), (32, .goto 4, 0, 0, 0), (35, .iconst 0, 0, 0, 0)]
def zm_c17_3 : List (Nat × zm_I) := [(36, .invokevirtual 54, 0, 0, 0), (39, .aload_n 0, 0, 0, 0), (40, .getfield 15, 1, 2, 0), (43, .aload_n 0, 0, 0, 0), (44, .getfield 44, 1, 6, 0), (47, .caload, 0, 0, 0)]
def zm_c17_4 : List (Nat × zm_I) := [(48, .bipush 65, 0, 0, 0), (50, .isub, 0, 0, 0), (51, .istore_n 1, 0, 0, 0), (52, .aload_n 0, 0, 0, 0), (53, .dup, 0, 0, 0), (54, .getfield 44, 1, 6, 0)]
def zm_c17_5 : List (Nat × zm_I) := [(57, .iconst 1, 0, 0, 0), (58, .iadd, 0, 0, 0), (59, .putfield 44, 1, 6, 0), (62, .aload_n 0, 0, 0, 0), (63, .invokevirtual 58, 0, 0, 0), (66, .aload_n 0, 0, 0, 0)]
def zm_c17_6 : List (Nat × zm_I) := [(67, .aload_n 0, 0, 0, 0), (68, .getfield 44, 1, 6, 0), (71, .aload_n 0, 0, 0, 0), (72, .getfield 47, 1, 5, 0), (75, .if_icmp .ge 21, 0, 0, 0), (78, .aload_n 0, 0, 0, 0)]
def zm_c17_7 : List (Nat × zm_I) := [(79, .getfield 15, 1, 2, 0), (82, .aload_n 0, 0, 0, 0), (83, .getfield 44, 1, 6, 0), (86, .caload, 0, 0, 0), (87, .bipush 61, 0, 0, 0), (89, .if_icmp .ne 7, 0, 0, 0)]
def zm_c17_8 : List (Nat × zm_I) := [(92, .iconst 1, 0, 0, 0), (93, .goto 4, 0, 0, 0), (96, .iconst 0, 0, 0, 0), (97, .invokevirtual 54, 0, 0, 0), (100, .aload_n 0, 0, 0, 0), (101, .dup, 0, 0, 0)]
def zm_c17_9 : List (Nat × zm_I) := [(102, .getfield 44, 1, 6, 0), (105, .iconst 1, 0, 0, 0), (106, .iadd, 0, 0, 0), (107, .putfield 44, 1, 6, 0), (110, .new 61, 6, 0, 0), (113, .dup, 0, 0, 0)]
def zm_c17_10 : List (Nat × zm_I) := [(114, .iload_n 1, 0, 0, 0), (115, .aload_n 0, 0, 0, 0), (116, .getfield 63, 1, 4, 0), (119, .aload_n 0, 0, 0, 0), (120, .invokevirtual 66, 0, 0, 0), (123, .invokespecial 70, 0, 0, 0)]
def zm_c17_11 : List (Nat × zm_I) := [(126, .areturn, 0, 0, 0)]
def zm_g17 (pc : Nat) : Option zm_I := cond (Nat.blt pc 67) (cond (Nat.blt pc 36) (cond (Nat.blt pc 10) (zm_lk zm_c17_0 pc) (cond (Nat.blt pc 24) (zm_lk zm_c17_1 pc) (zm_lk zm_c17_2 pc))) (cond (Nat.blt pc 48) (zm_lk zm_c17_3 pc) (cond (Nat.blt pc 57) (zm_lk zm_c17_4 pc) (zm_lk zm_c17_5 pc)))) (cond (Nat.blt pc 102) (cond (Nat.blt pc 79) (zm_lk zm_c17_6 pc) (cond (Nat.blt pc 92) (zm_lk zm_c17_7 pc) (zm_lk zm_c17_8 pc))) (cond (Nat.blt pc 114) (zm_lk zm_c17_9 pc) (cond (Nat.blt pc 126) (zm_lk zm_c17_10 pc) (zm_lk zm_c17_11 pc))))
/-- NeedMachine$Text.beginReading()V -/
def zm_c18_0 : List (Nat × zm_I) := [(0, .aload_n 0, 0, 0, 0), (1, .aload_n 0, 0, 0, 0), (2, .getfield 33, 1, 0, 0), (5, .putfield 47, 1, 5, 0), (8, .aload_n 0, 0, 0, 0), (9, .iconst 0, 0, 0, 0)]
def zm_c18_1 : List (Nat × zm_I) := [(10, .putfield 33, 1, 0, 0), (13, .aload_n 0, 0, 0, 0), (14, .iconst 0, 0, 0, 0), (15, .putfield 44, 1, 6, 0), (18, .aload_n 0, 0, 0, 0), (19, .iconst 0, 0, 0, 0)]
def zm_c18_2 : List (Nat × zm_I) := [(20, .putfield 63, 1, 4, 0), (23, .return_, 0, 0, 0)]
def zm_g18 (pc : Nat) : Option zm_I := cond (Nat.blt pc 10) (zm_lk zm_c18_0 pc) (cond (Nat.blt pc 20) (zm_lk zm_c18_1 pc) (zm_lk zm_c18_2 pc))
/-- NeedMachine$Text.isName(C)Z -/
def zm_c19_0 : List (Nat × zm_I) := [(0, .iload_n 0, 0, 0, 0), (1, .bipush 65, 0, 0, 0), (3, .if_icmp .lt 13, 0, 0, 0), (6, .iload_n 0, 0, 0, 0), (7, .bipush 71, 0, 0, 0), (9, .if_icmp .ge 7, 0, 0, 0)]
def zm_c19_1 : List (Nat × zm_I) := [(12, .iconst 1, 0, 0, 0), (13, .goto 4, 0, 0, 0), (16, .iconst 0, 0, 0, 0), (17, .ireturn, 0, 0, 0)]
def zm_g19 (pc : Nat) : Option zm_I := cond (Nat.blt pc 12) (zm_lk zm_c19_0 pc) (zm_lk zm_c19_1 pc)
/-- NeedMachine$Text.refuseUnless(Z)V -/
def zm_c20_0 : List (Nat × zm_I) := [(0, .iload_n 1, 0, 0, 0), (1, .ifCond .ne 21, 0, 0, 0), (4, .aload_n 0, 0, 0, 0), (5, .aload_n 0, 0, 0, 0), (6, .getfield 44, 1, 6, 0), (9, .putfield 9, 1, 1, 0)]
def zm_c20_1 : List (Nat × zm_I) := [(22, .return_, 0, 0, 0)]
def zm_g20 (pc : Nat) : Option zm_I := cond (Nat.blt pc 22) (zm_lk zm_c20_0 pc) (zm_lk zm_c20_1 pc)
/-- NeedMachine$Text.readParameters()V -/
def zm_c21_0 : List (Nat × zm_I) := [(0, .aload_n 0, 0, 0, 0), (1, .getfield 63, 1, 4, 0), (4, .iconst 4, 0, 0, 0), (5, .if_icmp .ge 71, 0, 0, 0), (8, .aload_n 0, 0, 0, 0), (9, .getfield 44, 1, 6, 0)]
def zm_c21_1 : List (Nat × zm_I) := [(12, .aload_n 0, 0, 0, 0), (13, .getfield 47, 1, 5, 0), (16, .if_icmp .ge 60, 0, 0, 0), (19, .aload_n 0, 0, 0, 0), (20, .aload_n 0, 0, 0, 0), (21, .getfield 15, 1, 2, 0)]
def zm_c21_2 : List (Nat × zm_I) := [(24, .aload_n 0, 0, 0, 0), (25, .getfield 44, 1, 6, 0), (28, .caload, 0, 0, 0), (29, .invokevirtual 73, 0, 0, 0), (32, .ifCond .eq 44, 0, 0, 0), (35, .aload_n 0, 0, 0, 0)]
def zm_c21_3 : List (Nat × zm_I) := [(36, .getfield 19, 1, 3, 0), (39, .aload_n 0, 0, 0, 0), (40, .getfield 63, 1, 4, 0), (43, .aload_n 0, 0, 0, 0), (44, .getfield 15, 1, 2, 0), (47, .aload_n 0, 0, 0, 0)]
def zm_c21_4 : List (Nat × zm_I) := [(48, .getfield 44, 1, 6, 0), (51, .caload, 0, 0, 0), (52, .castore, 0, 0, 0), (53, .aload_n 0, 0, 0, 0), (54, .dup, 0, 0, 0), (55, .getfield 63, 1, 4, 0)]
def zm_c21_5 : List (Nat × zm_I) := [(58, .iconst 1, 0, 0, 0), (59, .iadd, 0, 0, 0), (60, .putfield 63, 1, 4, 0), (63, .aload_n 0, 0, 0, 0), (64, .dup, 0, 0, 0), (65, .getfield 44, 1, 6, 0)]
def zm_c21_6 : List (Nat × zm_I) := [(68, .iconst 1, 0, 0, 0), (69, .iadd, 0, 0, 0), (70, .putfield 44, 1, 6, 0), (73, .goto (-73), 0, 0, 0), (76, .return_, 0, 0, 0)]
def zm_g21 (pc : Nat) : Option zm_I := cond (Nat.blt pc 36) (cond (Nat.blt pc 12) (zm_lk zm_c21_0 pc) (cond (Nat.blt pc 24) (zm_lk zm_c21_1 pc) (zm_lk zm_c21_2 pc))) (cond (Nat.blt pc 58) (cond (Nat.blt pc 48) (zm_lk zm_c21_3 pc) (zm_lk zm_c21_4 pc)) (cond (Nat.blt pc 68) (zm_lk zm_c21_5 pc) (zm_lk zm_c21_6 pc)))
/-- NeedMachine$Text.isNewParameter(C)Z -/
def zm_c22_0 : List (Nat × zm_I) := [(0, .iload_n 1, 0, 0, 0), (1, .bipush 97, 0, 0, 0), (3, .if_icmp .lt 21, 0, 0, 0), (6, .iload_n 1, 0, 0, 0), (7, .bipush 102, 0, 0, 0), (9, .if_icmp .gt 15, 0, 0, 0)]
def zm_c22_1 : List (Nat × zm_I) := [(12, .aload_n 0, 0, 0, 0), (13, .iload_n 1, 0, 0, 0), (14, .invokevirtual 103, 0, 0, 0), (17, .ifCond .ge 7, 0, 0, 0), (20, .iconst 1, 0, 0, 0), (21, .goto 4, 0, 0, 0)]
def zm_c22_2 : List (Nat × zm_I) := [(24, .iconst 0, 0, 0, 0), (25, .ireturn, 0, 0, 0)]
def zm_g22 (pc : Nat) : Option zm_I := cond (Nat.blt pc 12) (zm_lk zm_c22_0 pc) (cond (Nat.blt pc 24) (zm_lk zm_c22_1 pc) (zm_lk zm_c22_2 pc))
/-- NeedMachine$Text.parameterIndex(C)I -/
def zm_c23_0 : List (Nat × zm_I) := [(0, .iconst 0, 0, 0, 0), (1, .istore_n 2, 0, 0, 0), (2, .iload_n 2, 0, 0, 0), (3, .aload_n 0, 0, 0, 0), (4, .getfield 63, 1, 4, 0), (7, .if_icmp .ge 21, 0, 0, 0)]
def zm_c23_1 : List (Nat × zm_I) := [(10, .aload_n 0, 0, 0, 0), (11, .getfield 19, 1, 3, 0), (14, .iload_n 2, 0, 0, 0), (15, .caload, 0, 0, 0), (16, .iload_n 1, 0, 0, 0), (17, .if_icmp .ne 5, 0, 0, 0)]
def zm_c23_2 : List (Nat × zm_I) := [(20, .iload_n 2, 0, 0, 0), (21, .ireturn, 0, 0, 0), (22, .iinc 2 1, 0, 0, 0), (25, .goto (-23), 0, 0, 0), (28, .iconst (-1), 0, 0, 0), (29, .ireturn, 0, 0, 0)]
def zm_g23 (pc : Nat) : Option zm_I := cond (Nat.blt pc 10) (zm_lk zm_c23_0 pc) (cond (Nat.blt pc 20) (zm_lk zm_c23_1 pc) (zm_lk zm_c23_2 pc))
/-- NeedMachine$Text.readToTheEnd()LNeedMachine$Expression; -/
def zm_c24_0 : List (Nat × zm_I) := [(0, .aload_n 0, 0, 0, 0), (1, .iconst 1, 0, 0, 0), (2, .putfield 76, 1, 7, 0), (5, .aload_n 0, 0, 0, 0), (6, .iconst 1, 0, 0, 0), (7, .invokevirtual 79, 0, 0, 0)]
def zm_c24_1 : List (Nat × zm_I) := [(10, .astore_n 1, 0, 0, 0), (11, .aload_n 0, 0, 0, 0), (12, .aload_n 0, 0, 0, 0), (13, .getfield 44, 1, 6, 0), (16, .aload_n 0, 0, 0, 0), (17, .getfield 47, 1, 5, 0)]
def zm_c24_2 : List (Nat × zm_I) := [(20, .if_icmp .ne 7, 0, 0, 0), (23, .iconst 1, 0, 0, 0), (24, .goto 4, 0, 0, 0), (27, .iconst 0, 0, 0, 0), (28, .invokevirtual 54, 0, 0, 0), (31, .aload_n 1, 0, 0, 0)]
def zm_c24_3 : List (Nat × zm_I) := [(32, .areturn, 0, 0, 0)]
def zm_g24 (pc : Nat) : Option zm_I := cond (Nat.blt pc 20) (cond (Nat.blt pc 10) (zm_lk zm_c24_0 pc) (zm_lk zm_c24_1 pc)) (cond (Nat.blt pc 32) (zm_lk zm_c24_2 pc) (zm_lk zm_c24_3 pc))
/-- NeedMachine$Text.readExpression(I)LNeedMachine$Expression; -/
def zm_c25_0 : List (Nat × zm_I) := [(0, .aload_n 0, 0, 0, 0), (1, .aload_n 0, 0, 0, 0), (2, .getfield 44, 1, 6, 0), (5, .aload_n 0, 0, 0, 0), (6, .getfield 47, 1, 5, 0), (9, .if_icmp .ge 24, 0, 0, 0)]
def zm_c25_1 : List (Nat × zm_I) := [(12, .aload_n 0, 0, 0, 0), (13, .aload_n 0, 0, 0, 0), (14, .getfield 15, 1, 2, 0), (17, .aload_n 0, 0, 0, 0), (18, .getfield 44, 1, 6, 0), (21, .caload, 0, 0, 0)]
def zm_c25_2 : List (Nat × zm_I) := [(22, .iload_n 1, 0, 0, 0), (23, .invokevirtual 83, 0, 0, 0), (26, .ifCond .eq 7, 0, 0, 0), (29, .iconst 1, 0, 0, 0), (30, .goto 4, 0, 0, 0), (33, .iconst 0, 0, 0, 0)]
def zm_c25_3 : List (Nat × zm_I) := [(34, .invokevirtual 54, 0, 0, 0), (37, .aload_n 0, 0, 0, 0), (38, .getfield 15, 1, 2, 0), (41, .aload_n 0, 0, 0, 0), (42, .getfield 44, 1, 6, 0), (45, .caload, 0, 0, 0)]
def zm_c25_4 : List (Nat × zm_I) := [(46, .istore_n 2, 0, 0, 0), (47, .iload_n 2, 0, 0, 0), (48, .invokestatic 87, 0, 0, 0), (51, .istore_n 3, 0, 0, 0), (52, .aload_n 0, 0, 0, 0), (53, .dup, 0, 0, 0)]
def zm_c25_5 : List (Nat × zm_I) := [(54, .getfield 44, 1, 6, 0), (57, .iconst 1, 0, 0, 0), (58, .iadd, 0, 0, 0), (59, .putfield 44, 1, 6, 0), (62, .aload_n 0, 0, 0, 0), (63, .dup, 0, 0, 0)]
def zm_c25_6 : List (Nat × zm_I) := [(64, .getfield 76, 1, 7, 0), (67, .iload_n 3, 0, 0, 0), (68, .iconst 1, 0, 0, 0), (69, .isub, 0, 0, 0), (70, .iadd, 0, 0, 0), (71, .putfield 76, 1, 7, 0)]
def zm_c25_7 : List (Nat × zm_I) := [(74, .iload_n 3, 0, 0, 0), (75, .ifCond .ne 9, 0, 0, 0), (78, .aload_n 0, 0, 0, 0), (79, .iload_n 2, 0, 0, 0), (80, .invokevirtual 91, 0, 0, 0), (83, .areturn, 0, 0, 0)]
def zm_c25_8 : List (Nat × zm_I) := [(84, .aload_n 0, 0, 0, 0), (85, .iload_n 1, 0, 0, 0), (86, .iconst 1, 0, 0, 0), (87, .iadd, 0, 0, 0), (88, .invokevirtual 79, 0, 0, 0), (91, .astore 4, 0, 0, 0)]
def zm_c25_9 : List (Nat × zm_I) := [(93, .iload_n 3, 0, 0, 0), (94, .iconst 1, 0, 0, 0), (95, .if_icmp .le 13, 0, 0, 0), (98, .aload_n 0, 0, 0, 0), (99, .iload_n 1, 0, 0, 0), (100, .iconst 1, 0, 0, 0)]
def zm_c25_10 : List (Nat × zm_I) := [(101, .iadd, 0, 0, 0), (102, .invokevirtual 79, 0, 0, 0), (105, .goto 4, 0, 0, 0), (108, .aconst_null, 0, 0, 0), (109, .astore 5, 0, 0, 0), (111, .iload_n 3, 0, 0, 0)]
def zm_c25_11 : List (Nat × zm_I) := [(112, .iconst 2, 0, 0, 0), (113, .if_icmp .le 13, 0, 0, 0), (116, .aload_n 0, 0, 0, 0), (117, .iload_n 1, 0, 0, 0), (118, .iconst 1, 0, 0, 0), (119, .iadd, 0, 0, 0)]
def zm_c25_12 : List (Nat × zm_I) := [(120, .invokevirtual 79, 0, 0, 0), (123, .goto 4, 0, 0, 0), (126, .aconst_null, 0, 0, 0), (127, .astore 6, 0, 0, 0), (129, .new 95, 7, 0, 0), (132, .dup, 0, 0, 0)]
def zm_c25_13 : List (Nat × zm_I) := [(133, .iload_n 2, 0, 0, 0), (134, .iconst 0, 0, 0, 0), (135, .aload 4, 0, 0, 0), (137, .aload 5, 0, 0, 0), (139, .aload 6, 0, 0, 0), (141, .invokespecial 97, 0, 0, 0)]
def zm_c25_14 : List (Nat × zm_I) := [(144, .areturn, 0, 0, 0)]
def zm_g25 (pc : Nat) : Option zm_I := cond (Nat.blt pc 74) (cond (Nat.blt pc 34) (cond (Nat.blt pc 12) (zm_lk zm_c25_0 pc) (cond (Nat.blt pc 22) (zm_lk zm_c25_1 pc) (zm_lk zm_c25_2 pc))) (cond (Nat.blt pc 54) (cond (Nat.blt pc 46) (zm_lk zm_c25_3 pc) (zm_lk zm_c25_4 pc)) (cond (Nat.blt pc 64) (zm_lk zm_c25_5 pc) (zm_lk zm_c25_6 pc)))) (cond (Nat.blt pc 112) (cond (Nat.blt pc 93) (cond (Nat.blt pc 84) (zm_lk zm_c25_7 pc) (zm_lk zm_c25_8 pc)) (cond (Nat.blt pc 101) (zm_lk zm_c25_9 pc) (zm_lk zm_c25_10 pc))) (cond (Nat.blt pc 133) (cond (Nat.blt pc 120) (zm_lk zm_c25_11 pc) (zm_lk zm_c25_12 pc)) (cond (Nat.blt pc 144) (zm_lk zm_c25_13 pc) (zm_lk zm_c25_14 pc))))
/-- NeedMachine$Text.canStand(CI)Z -/
def zm_c26_0 : List (Nat × zm_I) := [(0, .iload_n 1, 0, 0, 0), (1, .invokestatic 87, 0, 0, 0), (4, .istore_n 3, 0, 0, 0), (5, .iload_n 3, 0, 0, 0), (6, .ifCond .ne 9, 0, 0, 0), (9, .aload_n 0, 0, 0, 0)]
def zm_c26_1 : List (Nat × zm_I) := [(10, .iload_n 1, 0, 0, 0), (11, .invokevirtual 106, 0, 0, 0), (14, .ireturn, 0, 0, 0), (15, .iload_n 2, 0, 0, 0), (16, .bipush 12, 0, 0, 0), (18, .if_icmp .ge 23, 0, 0, 0)]
def zm_c26_2 : List (Nat × zm_I) := [(21, .aload_n 0, 0, 0, 0), (22, .getfield 44, 1, 6, 0), (25, .aload_n 0, 0, 0, 0), (26, .getfield 76, 1, 7, 0), (29, .iadd, 0, 0, 0), (30, .iload_n 3, 0, 0, 0)]
def zm_c26_3 : List (Nat × zm_I) := [(31, .iadd, 0, 0, 0), (32, .bipush 40, 0, 0, 0), (34, .if_icmp .gt 7, 0, 0, 0), (37, .iconst 1, 0, 0, 0), (38, .goto 4, 0, 0, 0), (41, .iconst 0, 0, 0, 0)]
def zm_c26_4 : List (Nat × zm_I) := [(42, .ireturn, 0, 0, 0)]
def zm_g26 (pc : Nat) : Option zm_I := cond (Nat.blt pc 21) (cond (Nat.blt pc 10) (zm_lk zm_c26_0 pc) (zm_lk zm_c26_1 pc)) (cond (Nat.blt pc 31) (zm_lk zm_c26_2 pc) (cond (Nat.blt pc 42) (zm_lk zm_c26_3 pc) (zm_lk zm_c26_4 pc)))
/-- NeedMachine$Text.partsOf(C)I -/
def zm_c27_0 : List (Nat × zm_I) := [(0, .iload_n 0, 0, 0, 0), (1, .lookupswitch 121 #[(37, 117), (42, 117), (43, 117), (45, 117), (46, 117), (47, 117), (58, 117), (60, 117), (61, 117), (63, 119), (104, 115), (116, 115), (122, 115)], 115, 0, 0), (116, .iconst 1, 0, 0, 0), (117, .ireturn, 0, 0, 0), (118, .iconst 2, 0, 0, 0), (119, .ireturn, 0, 0, 0)]
def zm_c27_1 : List (Nat × zm_I) := [(120, .iconst 3, 0, 0, 0), (121, .ireturn, 0, 0, 0), (122, .iconst 0, 0, 0, 0), (123, .ireturn, 0, 0, 0)]
def zm_g27 (pc : Nat) : Option zm_I := cond (Nat.blt pc 120) (zm_lk zm_c27_0 pc) (zm_lk zm_c27_1 pc)
/-- NeedMachine$Text.isLeaf(C)Z -/
def zm_c28_0 : List (Nat × zm_I) := [(0, .iload_n 1, 0, 0, 0), (1, .invokestatic 100, 0, 0, 0), (4, .ifCond .ne 24, 0, 0, 0), (7, .iload_n 1, 0, 0, 0), (8, .invokestatic 50, 0, 0, 0), (11, .ifCond .ne 17, 0, 0, 0)]
def zm_c28_1 : List (Nat × zm_I) := [(14, .iload_n 1, 0, 0, 0), (15, .bipush 110, 0, 0, 0), (17, .if_icmp .eq 11, 0, 0, 0), (20, .aload_n 0, 0, 0, 0), (21, .iload_n 1, 0, 0, 0), (22, .invokevirtual 103, 0, 0, 0)]
def zm_c28_2 : List (Nat × zm_I) := [(25, .ifCond .lt 7, 0, 0, 0), (28, .iconst 1, 0, 0, 0), (29, .goto 4, 0, 0, 0), (32, .iconst 0, 0, 0, 0), (33, .ireturn, 0, 0, 0)]
def zm_g28 (pc : Nat) : Option zm_I := cond (Nat.blt pc 14) (zm_lk zm_c28_0 pc) (cond (Nat.blt pc 25) (zm_lk zm_c28_1 pc) (zm_lk zm_c28_2 pc))
/-- NeedMachine$Text.isDigit(C)Z -/
def zm_c29_0 : List (Nat × zm_I) := [(0, .iload_n 0, 0, 0, 0), (1, .bipush 48, 0, 0, 0), (3, .if_icmp .lt 13, 0, 0, 0), (6, .iload_n 0, 0, 0, 0), (7, .bipush 57, 0, 0, 0), (9, .if_icmp .gt 7, 0, 0, 0)]
def zm_c29_1 : List (Nat × zm_I) := [(12, .iconst 1, 0, 0, 0), (13, .goto 4, 0, 0, 0), (16, .iconst 0, 0, 0, 0), (17, .ireturn, 0, 0, 0)]
def zm_g29 (pc : Nat) : Option zm_I := cond (Nat.blt pc 12) (zm_lk zm_c29_0 pc) (zm_lk zm_c29_1 pc)
/-- NeedMachine$Text.readLeaf(C)LNeedMachine$Expression; -/
def zm_c30_0 : List (Nat × zm_I) := [(0, .iload_n 1, 0, 0, 0), (1, .invokestatic 100, 0, 0, 0), (4, .ifCond .eq 20, 0, 0, 0), (7, .new 95, 7, 0, 0), (10, .dup, 0, 0, 0), (11, .bipush 48, 0, 0, 0)]
def zm_c30_1 : List (Nat × zm_I) := [(13, .iload_n 1, 0, 0, 0), (14, .bipush 48, 0, 0, 0), (16, .isub, 0, 0, 0), (17, .aconst_null, 0, 0, 0), (18, .aconst_null, 0, 0, 0), (19, .aconst_null, 0, 0, 0)]
def zm_c30_2 : List (Nat × zm_I) := [(20, .invokespecial 97, 0, 0, 0), (23, .areturn, 0, 0, 0), (24, .iload_n 1, 0, 0, 0), (25, .invokestatic 50, 0, 0, 0), (28, .ifCond .eq 20, 0, 0, 0), (31, .new 95, 7, 0, 0)]
def zm_c30_3 : List (Nat × zm_I) := [(34, .dup, 0, 0, 0), (35, .bipush 65, 0, 0, 0), (37, .iload_n 1, 0, 0, 0), (38, .bipush 65, 0, 0, 0), (40, .isub, 0, 0, 0), (41, .aconst_null, 0, 0, 0)]
def zm_c30_4 : List (Nat × zm_I) := [(42, .aconst_null, 0, 0, 0), (43, .aconst_null, 0, 0, 0), (44, .invokespecial 97, 0, 0, 0), (47, .areturn, 0, 0, 0), (48, .aload_n 0, 0, 0, 0), (49, .iload_n 1, 0, 0, 0)]
def zm_c30_5 : List (Nat × zm_I) := [(50, .invokevirtual 103, 0, 0, 0), (53, .istore_n 2, 0, 0, 0), (54, .iload_n 2, 0, 0, 0), (55, .ifCond .lt 17, 0, 0, 0), (58, .new 95, 7, 0, 0), (61, .dup, 0, 0, 0)]
def zm_c30_6 : List (Nat × zm_I) := [(62, .bipush 97, 0, 0, 0), (64, .iload_n 2, 0, 0, 0), (65, .aconst_null, 0, 0, 0), (66, .aconst_null, 0, 0, 0), (67, .aconst_null, 0, 0, 0), (68, .invokespecial 97, 0, 0, 0)]
def zm_c30_7 : List (Nat × zm_I) := [(71, .areturn, 0, 0, 0), (72, .new 95, 7, 0, 0), (75, .dup, 0, 0, 0), (76, .bipush 110, 0, 0, 0), (78, .iconst 0, 0, 0, 0), (79, .aconst_null, 0, 0, 0)]
def zm_c30_8 : List (Nat × zm_I) := [(80, .aconst_null, 0, 0, 0), (81, .aconst_null, 0, 0, 0), (82, .invokespecial 97, 0, 0, 0), (85, .areturn, 0, 0, 0)]
def zm_g30 (pc : Nat) : Option zm_I := cond (Nat.blt pc 42) (cond (Nat.blt pc 20) (cond (Nat.blt pc 13) (zm_lk zm_c30_0 pc) (zm_lk zm_c30_1 pc)) (cond (Nat.blt pc 34) (zm_lk zm_c30_2 pc) (zm_lk zm_c30_3 pc))) (cond (Nat.blt pc 62) (cond (Nat.blt pc 50) (zm_lk zm_c30_4 pc) (zm_lk zm_c30_5 pc)) (cond (Nat.blt pc 71) (zm_lk zm_c30_6 pc) (cond (Nat.blt pc 80) (zm_lk zm_c30_7 pc) (zm_lk zm_c30_8 pc))))
/-- NeedMachine$Expression.<init>(CILNeedMachine$Expression;LNeedMachine$Expression;LNeedMachine$Expression;)V -/
def zm_c31_0 : List (Nat × zm_I) := [(0, .aload_n 0, 0, 0, 0), (1, .invokespecial 1, 0, 0, 0), (4, .aload_n 0, 0, 0, 0), (5, .iload_n 1, 0, 0, 0), (6, .putfield 7, 7, 0, 0), (9, .aload_n 0, 0, 0, 0)]
def zm_c31_1 : List (Nat × zm_I) := [(10, .iload_n 2, 0, 0, 0), (11, .putfield 13, 7, 1, 0), (14, .aload_n 0, 0, 0, 0), (15, .aload_n 3, 0, 0, 0), (16, .putfield 17, 7, 2, 0), (19, .aload_n 0, 0, 0, 0)]
def zm_c31_2 : List (Nat × zm_I) := [(20, .aload 4, 0, 0, 0), (22, .putfield 21, 7, 3, 0), (25, .aload_n 0, 0, 0, 0), (26, .aload 5, 0, 0, 0), (28, .putfield 24, 7, 4, 0), (31, .return_, 0, 0, 0)]
def zm_g31 (pc : Nat) : Option zm_I := cond (Nat.blt pc 10) (zm_lk zm_c31_0 pc) (cond (Nat.blt pc 20) (zm_lk zm_c31_1 pc) (zm_lk zm_c31_2 pc))
/-- NeedMachine$Definition.<init>(IILNeedMachine$Expression;)V -/
def zm_c32_0 : List (Nat × zm_I) := [(0, .aload_n 0, 0, 0, 0), (1, .invokespecial 1, 0, 0, 0), (4, .aload_n 0, 0, 0, 0), (5, .iload_n 1, 0, 0, 0), (6, .putfield 7, 6, 0, 0), (9, .aload_n 0, 0, 0, 0)]
def zm_c32_1 : List (Nat × zm_I) := [(10, .iload_n 2, 0, 0, 0), (11, .putfield 13, 6, 1, 0), (14, .aload_n 0, 0, 0, 0), (15, .aload_n 3, 0, 0, 0), (16, .putfield 16, 6, 2, 0), (19, .return_, 0, 0, 0)]
def zm_g32 (pc : Nat) : Option zm_I := cond (Nat.blt pc 10) (zm_lk zm_c32_0 pc) (zm_lk zm_c32_1 pc)
/-- NeedMachineLaw.ask(LNeedMachine;[J)I -/
def zm_c33_0 : List (Nat × zm_I) := [(0, .aload_n 1, 0, 0, 0), (1, .iconst 0, 0, 0, 0), (2, .aload_n 0, 0, 0, 0), (3, .invokevirtual 21, 0, 0, 0), (6, .i2l, 0, 0, 0), (7, .lastore, 0, 0, 0)]
def zm_c33_1 : List (Nat × zm_I) := [(8, .goto 18, 0, 0, 0), (11, .astore_n 2, 0, 0, 0), (12, .iconst 1, 0, 0, 0), (13, .ireturn, 0, 0, 0), (14, .astore_n 2, 0, 0, 0), (15, .iconst 2, 0, 0, 0)]
def zm_c33_2 : List (Nat × zm_I) := [(16, .ireturn, 0, 0, 0), (17, .astore_n 2, 0, 0, 0), (18, .iconst 3, 0, 0, 0), (19, .ireturn, 0, 0, 0), (20, .astore_n 2, 0, 0, 0), (21, .iconst 4, 0, 0, 0)]
def zm_c33_3 : List (Nat × zm_I) := [(22, .ireturn, 0, 0, 0), (23, .astore_n 2, 0, 0, 0), (24, .iconst 5, 0, 0, 0), (25, .ireturn, 0, 0, 0), (26, .iconst 0, 0, 0, 0), (27, .ireturn, 0, 0, 0)]
def zm_g33 (pc : Nat) : Option zm_I := cond (Nat.blt pc 16) (cond (Nat.blt pc 8) (zm_lk zm_c33_0 pc) (zm_lk zm_c33_1 pc)) (cond (Nat.blt pc 22) (zm_lk zm_c33_2 pc) (zm_lk zm_c33_3 pc))
/-- NeedMachine.ask()I -/
def zm_c34_0 : List (Nat × zm_I) := [(0, .aload_n 0, 0, 0, 0), (1, .getfield 10, 0, 0, 0), (4, .invokevirtual 44, 0, 0, 0), (7, .astore_n 1, 0, 0, 0), (8, .aload_n 0, 0, 0, 0), (9, .aconst_null, 0, 0, 0)]
def zm_c34_1 : List (Nat × zm_I) := [(10, .putfield 48, 0, 3, 0), (13, .aload_n 0, 0, 0, 0), (14, .getfield 19, 0, 1, 0), (17, .invokevirtual 52, 0, 0, 0), (20, .aload_n 0, 0, 0, 0), (21, .iconst 0, 0, 0, 0)]
def zm_c34_2 : List (Nat × zm_I) := [(22, .putfield 55, 0, 4, 0), (25, .aload_n 0, 0, 0, 0), (26, .iconst 0, 0, 0, 0), (27, .putfield 58, 0, 8, 0), (30, .aload_n 0, 0, 0, 0), (31, .aload_n 0, 0, 0, 0)]
def zm_c34_3 : List (Nat × zm_I) := [(32, .aload_n 1, 0, 0, 0), (33, .aconst_null, 0, 0, 0), (34, .iconst 1, 0, 0, 0), (35, .invokevirtual 61, 0, 0, 0), (38, .putfield 48, 0, 3, 0), (41, .aload_n 0, 0, 0, 0)]
def zm_c34_4 : List (Nat × zm_I) := [(42, .getfield 48, 0, 3, 0), (45, .getfield 65, 3, 0, 0), (48, .ireturn, 0, 0, 0)]
def zm_g34 (pc : Nat) : Option zm_I := cond (Nat.blt pc 22) (cond (Nat.blt pc 10) (zm_lk zm_c34_0 pc) (zm_lk zm_c34_1 pc)) (cond (Nat.blt pc 32) (zm_lk zm_c34_2 pc) (cond (Nat.blt pc 42) (zm_lk zm_c34_3 pc) (zm_lk zm_c34_4 pc)))
/-- NeedMachine$Text.readAsked()LNeedMachine$Expression; -/
def zm_c35_0 : List (Nat × zm_I) := [(0, .aload_n 0, 0, 0, 0), (1, .invokevirtual 41, 0, 0, 0), (4, .aload_n 0, 0, 0, 0), (5, .invokevirtual 66, 0, 0, 0), (8, .areturn, 0, 0, 0)]
def zm_g35 (pc : Nat) : Option zm_I := zm_lk zm_c35_0 pc
/-- NeedMachine$Store.takeAllBack()V -/
def zm_c36_0 : List (Nat × zm_I) := [(0, .aload_n 0, 0, 0, 0), (1, .iconst 0, 0, 0, 0), (2, .putfield 35, 2, 4, 0), (5, .aload_n 0, 0, 0, 0), (6, .iconst 0, 0, 0, 0), (7, .putfield 38, 2, 5, 0)]
def zm_c36_1 : List (Nat × zm_I) := [(10, .aload_n 0, 0, 0, 0), (11, .iconst 0, 0, 0, 0), (12, .putfield 41, 2, 6, 0), (15, .return_, 0, 0, 0)]
def zm_g36 (pc : Nat) : Option zm_I := cond (Nat.blt pc 10) (zm_lk zm_c36_0 pc) (zm_lk zm_c36_1 pc)
/-- NeedMachine.work(LNeedMachine$Expression;LNeedMachine$Arguments;I)LNeedMachine$Value; -/
def zm_c37_0 : List (Nat × zm_I) := [(0, .iload_n 3, 0, 0, 0), (1, .bipush 60, 0, 0, 0), (3, .if_icmp .le 13, 0, 0, 0), (16, .aload_n 0, 0, 0, 0), (17, .aload_n 0, 0, 0, 0), (18, .getfield 58, 0, 8, 0)]
def zm_c37_1 : List (Nat × zm_I) := [(21, .iload_n 3, 0, 0, 0), (22, .invokestatic 133, 0, 0, 0), (25, .putfield 58, 0, 8, 0), (28, .aload_n 1, 0, 0, 0), (29, .getfield 139, 7, 0, 0), (32, .lookupswitch 249 #[(46, 162), (48, 92), (58, 136), (63, 241), (65, 126), (97, 112), (104, 170), (110, 104), (116, 194), (122, 218)], 92, 0, 0)]
def zm_c37_2 : List (Nat × zm_I) := [(124, .aload_n 0, 0, 0, 0), (125, .getfield 19, 0, 1, 0), (128, .aload_n 1, 0, 0, 0), (129, .getfield 145, 7, 1, 0), (132, .invokevirtual 148, 0, 0, 0), (135, .areturn, 0, 0, 0)]
def zm_c37_3 : List (Nat × zm_I) := [(136, .aload_n 0, 0, 0, 0), (137, .getfield 19, 0, 1, 0), (140, .getfield 152, 2, 0, 0), (143, .areturn, 0, 0, 0), (144, .aload_n 0, 0, 0, 0), (145, .aload_n 2, 0, 0, 0)]
def zm_c37_4 : List (Nat × zm_I) := [(146, .aload_n 1, 0, 0, 0), (147, .getfield 145, 7, 1, 0), (150, .invokestatic 155, 0, 0, 0), (153, .iload_n 3, 0, 0, 0), (154, .invokevirtual 89, 0, 0, 0), (157, .areturn, 0, 0, 0)]
def zm_c37_5 : List (Nat × zm_I) := [(158, .aload_n 0, 0, 0, 0), (159, .aload_n 1, 0, 0, 0), (160, .getfield 145, 7, 1, 0), (163, .iload_n 3, 0, 0, 0), (164, .invokevirtual 159, 0, 0, 0), (167, .areturn, 0, 0, 0)]
def zm_c37_6 : List (Nat × zm_I) := [(168, .aload_n 0, 0, 0, 0), (169, .getfield 19, 0, 1, 0), (172, .aload_n 0, 0, 0, 0), (173, .aload_n 1, 0, 0, 0), (174, .getfield 163, 7, 2, 0), (177, .aload_n 2, 0, 0, 0)]
def zm_c37_7 : List (Nat × zm_I) := [(178, .invokevirtual 167, 0, 0, 0), (181, .aload_n 0, 0, 0, 0), (182, .aload_n 1, 0, 0, 0), (183, .getfield 171, 7, 3, 0), (186, .aload_n 2, 0, 0, 0), (187, .invokevirtual 167, 0, 0, 0)]
def zm_c37_8 : List (Nat × zm_I) := [(190, .invokevirtual 174, 0, 0, 0), (193, .areturn, 0, 0, 0), (194, .aload_n 0, 0, 0, 0), (195, .aload_n 1, 0, 0, 0), (196, .aload_n 2, 0, 0, 0), (197, .iload_n 3, 0, 0, 0)]
def zm_c37_9 : List (Nat × zm_I) := [(198, .invokevirtual 178, 0, 0, 0), (201, .areturn, 0, 0, 0), (202, .aload_n 0, 0, 0, 0), (203, .aload_n 0, 0, 0, 0), (204, .aload_n 1, 0, 0, 0), (205, .getfield 163, 7, 2, 0)]
def zm_c37_10 : List (Nat × zm_I) := [(208, .aload_n 2, 0, 0, 0), (209, .iload_n 3, 0, 0, 0), (210, .iconst 1, 0, 0, 0), (211, .iadd, 0, 0, 0), (212, .invokevirtual 61, 0, 0, 0), (215, .invokestatic 124, 0, 0, 0)]
def zm_c37_11 : List (Nat × zm_I) := [(218, .getfield 85, 3, 2, 0), (221, .iload_n 3, 0, 0, 0), (222, .invokevirtual 89, 0, 0, 0), (225, .areturn, 0, 0, 0), (226, .aload_n 0, 0, 0, 0), (227, .aload_n 0, 0, 0, 0)]
def zm_c37_12 : List (Nat × zm_I) := [(228, .aload_n 1, 0, 0, 0), (229, .getfield 163, 7, 2, 0), (232, .aload_n 2, 0, 0, 0), (233, .iload_n 3, 0, 0, 0), (234, .iconst 1, 0, 0, 0), (235, .iadd, 0, 0, 0)]
def zm_c37_13 : List (Nat × zm_I) := [(236, .invokevirtual 61, 0, 0, 0), (239, .invokestatic 124, 0, 0, 0), (242, .getfield 93, 3, 3, 0), (245, .iload_n 3, 0, 0, 0), (246, .invokevirtual 89, 0, 0, 0), (249, .areturn, 0, 0, 0)]
def zm_c37_14 : List (Nat × zm_I) := [(250, .aload_n 0, 0, 0, 0), (251, .getfield 19, 0, 1, 0), (254, .aload_n 0, 0, 0, 0), (255, .aload_n 1, 0, 0, 0), (256, .getfield 163, 7, 2, 0), (259, .aload_n 2, 0, 0, 0)]
def zm_c37_15 : List (Nat × zm_I) := [(260, .iload_n 3, 0, 0, 0), (261, .iconst 1, 0, 0, 0), (262, .iadd, 0, 0, 0), (263, .invokevirtual 61, 0, 0, 0), (266, .invokestatic 181, 0, 0, 0), (269, .invokevirtual 148, 0, 0, 0)]
def zm_c37_16 : List (Nat × zm_I) := [(272, .areturn, 0, 0, 0), (273, .aload_n 0, 0, 0, 0), (274, .aload_n 1, 0, 0, 0), (275, .aload_n 2, 0, 0, 0), (276, .iload_n 3, 0, 0, 0), (277, .invokevirtual 184, 0, 0, 0)]
def zm_c37_17 : List (Nat × zm_I) := [(280, .areturn, 0, 0, 0), (281, .aload_n 0, 0, 0, 0), (282, .aload_n 1, 0, 0, 0), (283, .aload_n 2, 0, 0, 0), (284, .iload_n 3, 0, 0, 0), (285, .invokevirtual 187, 0, 0, 0)]
def zm_c37_18 : List (Nat × zm_I) := [(288, .areturn, 0, 0, 0)]
def zm_g37 (pc : Nat) : Option zm_I := cond (Nat.blt pc 198) (cond (Nat.blt pc 146) (cond (Nat.blt pc 124) (cond (Nat.blt pc 21) (zm_lk zm_c37_0 pc) (zm_lk zm_c37_1 pc)) (cond (Nat.blt pc 136) (zm_lk zm_c37_2 pc) (zm_lk zm_c37_3 pc))) (cond (Nat.blt pc 168) (cond (Nat.blt pc 158) (zm_lk zm_c37_4 pc) (zm_lk zm_c37_5 pc)) (cond (Nat.blt pc 178) (zm_lk zm_c37_6 pc) (cond (Nat.blt pc 190) (zm_lk zm_c37_7 pc) (zm_lk zm_c37_8 pc))))) (cond (Nat.blt pc 250) (cond (Nat.blt pc 218) (cond (Nat.blt pc 208) (zm_lk zm_c37_9 pc) (zm_lk zm_c37_10 pc)) (cond (Nat.blt pc 228) (zm_lk zm_c37_11 pc) (cond (Nat.blt pc 236) (zm_lk zm_c37_12 pc) (zm_lk zm_c37_13 pc)))) (cond (Nat.blt pc 272) (cond (Nat.blt pc 260) (zm_lk zm_c37_14 pc) (zm_lk zm_c37_15 pc)) (cond (Nat.blt pc 280) (zm_lk zm_c37_16 pc) (cond (Nat.blt pc 288) (zm_lk zm_c37_17 pc) (zm_lk zm_c37_18 pc)))))
/-- NeedMachine$Store.makeNumber(I)LNeedMachine$Value; -/
def zm_c38_0 : List (Nat × zm_I) := [(0, .aload_n 0, 0, 0, 0), (1, .iconst 0, 0, 0, 0), (2, .invokevirtual 44, 0, 0, 0), (5, .astore_n 2, 0, 0, 0), (6, .aload_n 2, 0, 0, 0), (7, .iload_n 1, 0, 0, 0)]
def zm_c38_1 : List (Nat × zm_I) := [(8, .putfield 48, 3, 1, 0), (11, .aload_n 2, 0, 0, 0), (12, .areturn, 0, 0, 0)]
def zm_g38 (pc : Nat) : Option zm_I := cond (Nat.blt pc 8) (zm_lk zm_c38_0 pc) (zm_lk zm_c38_1 pc)
/-- NeedMachine$Store.nextValue(I)LNeedMachine$Value; -/
def zm_c39_0 : List (Nat × zm_I) := [(0, .aload_n 0, 0, 0, 0), (1, .getfield 35, 2, 4, 0), (4, .aload_n 0, 0, 0, 0), (5, .getfield 25, 2, 1, 0), (8, .invokevirtual 62, 0, 0, 0), (11, .if_icmp .lt 18, 0, 0, 0)]
def zm_c39_1 : List (Nat × zm_I) := [(14, .aload_n 0, 0, 0, 0), (15, .getfield 25, 2, 1, 0), (18, .new 9, 3, 0, 0), (21, .dup, 0, 0, 0), (22, .invokespecial 11, 0, 0, 0), (25, .invokevirtual 69, 0, 0, 0)]
def zm_c39_2 : List (Nat × zm_I) := [(28, .pop, 0, 0, 0), (29, .aload_n 0, 0, 0, 0), (30, .getfield 25, 2, 1, 0), (33, .aload_n 0, 0, 0, 0), (34, .getfield 35, 2, 4, 0), (37, .invokevirtual 73, 0, 0, 0)]
def zm_c39_3 : List (Nat × zm_I) := [(40, .checkcast 9, 3, 0, 0), (43, .astore_n 2, 0, 0, 0), (44, .aload_n 0, 0, 0, 0), (45, .dup, 0, 0, 0), (46, .getfield 35, 2, 4, 0), (49, .iconst 1, 0, 0, 0)]
def zm_c39_4 : List (Nat × zm_I) := [(50, .iadd, 0, 0, 0), (51, .putfield 35, 2, 4, 0), (54, .aload_n 2, 0, 0, 0), (55, .iload_n 1, 0, 0, 0), (56, .putfield 18, 3, 0, 0), (59, .aload_n 2, 0, 0, 0)]
def zm_c39_5 : List (Nat × zm_I) := [(60, .areturn, 0, 0, 0)]
def zm_g39 (pc : Nat) : Option zm_I := cond (Nat.blt pc 40) (cond (Nat.blt pc 14) (zm_lk zm_c39_0 pc) (cond (Nat.blt pc 28) (zm_lk zm_c39_1 pc) (zm_lk zm_c39_2 pc))) (cond (Nat.blt pc 50) (zm_lk zm_c39_3 pc) (cond (Nat.blt pc 60) (zm_lk zm_c39_4 pc) (zm_lk zm_c39_5 pc)))
/-- NeedMachine.argumentAt(LNeedMachine$Arguments;I)LNeedMachine$Closure; -/
def zm_c40_0 : List (Nat × zm_I) := [(0, .aload_n 0, 0, 0, 0), (1, .astore_n 2, 0, 0, 0), (2, .aload_n 2, 0, 0, 0), (3, .ifnull 26, 0, 0, 0), (6, .aload_n 2, 0, 0, 0), (7, .getfield 214, 9, 2, 0)]
def zm_c40_1 : List (Nat × zm_I) := [(10, .iload_n 1, 0, 0, 0), (11, .iconst 1, 0, 0, 0), (12, .iadd, 0, 0, 0), (13, .if_icmp .ne 8, 0, 0, 0), (16, .aload_n 2, 0, 0, 0), (17, .getfield 259, 9, 1, 0)]
def zm_c40_2 : List (Nat × zm_I) := [(20, .areturn, 0, 0, 0), (21, .aload_n 2, 0, 0, 0), (22, .getfield 262, 9, 0, 0), (25, .astore_n 2, 0, 0, 0), (26, .goto (-24), 0, 0, 0)]
def zm_g40 (pc : Nat) : Option zm_I := cond (Nat.blt pc 10) (zm_lk zm_c40_0 pc) (cond (Nat.blt pc 20) (zm_lk zm_c40_1 pc) (zm_lk zm_c40_2 pc))
/-- NeedMachine.force(LNeedMachine$Closure;I)LNeedMachine$Value; -/
def zm_c41_0 : List (Nat × zm_I) := [(0, .aload_n 1, 0, 0, 0), (1, .getfield 235, 8, 2, 0), (4, .ifCond .eq 18, 0, 0, 0), (7, .aload_n 0, 0, 0, 0), (8, .dup, 0, 0, 0), (9, .getfield 121, 0, 7, 0)]
def zm_c41_1 : List (Nat × zm_I) := [(12, .iconst 1, 0, 0, 0), (13, .iadd, 0, 0, 0), (14, .putfield 121, 0, 7, 0), (17, .aload_n 1, 0, 0, 0), (18, .invokestatic 241, 0, 0, 0), (21, .areturn, 0, 0, 0)]
def zm_c41_2 : List (Nat × zm_I) := [(22, .aload_n 1, 0, 0, 0), (23, .iconst 1, 0, 0, 0), (24, .putfield 235, 8, 2, 0), (27, .aload_n 0, 0, 0, 0), (28, .dup, 0, 0, 0), (29, .getfield 118, 0, 6, 0)]
def zm_c41_3 : List (Nat × zm_I) := [(32, .iconst 1, 0, 0, 0), (33, .iadd, 0, 0, 0), (34, .putfield 118, 0, 6, 0), (37, .aload_n 0, 0, 0, 0), (38, .aload_n 1, 0, 0, 0), (39, .getfield 245, 8, 0, 0)]
def zm_c41_4 : List (Nat × zm_I) := [(42, .aload_n 1, 0, 0, 0), (43, .getfield 248, 8, 1, 0), (46, .iload_n 2, 0, 0, 0), (47, .iconst 1, 0, 0, 0), (48, .iadd, 0, 0, 0), (49, .invokevirtual 61, 0, 0, 0)]
def zm_c41_5 : List (Nat × zm_I) := [(52, .astore_n 3, 0, 0, 0), (53, .aload_n 1, 0, 0, 0), (54, .aload_n 3, 0, 0, 0), (55, .putfield 251, 8, 3, 0), (58, .aload_n 3, 0, 0, 0), (59, .areturn, 0, 0, 0)]
def zm_g41 (pc : Nat) : Option zm_I := cond (Nat.blt pc 32) (cond (Nat.blt pc 12) (zm_lk zm_c41_0 pc) (cond (Nat.blt pc 22) (zm_lk zm_c41_1 pc) (zm_lk zm_c41_2 pc))) (cond (Nat.blt pc 42) (zm_lk zm_c41_3 pc) (cond (Nat.blt pc 52) (zm_lk zm_c41_4 pc) (zm_lk zm_c41_5 pc)))
/-- NeedMachine.mustBeWorkedOut(LNeedMachine$Closure;)LNeedMachine$Value; -/
def zm_c42_0 : List (Nat × zm_I) := [(0, .aload_n 0, 0, 0, 0), (1, .getfield 251, 8, 3, 0), (4, .ifnonnull 14, 0, 0, 0), (18, .aload_n 0, 0, 0, 0), (19, .getfield 251, 8, 3, 0), (22, .areturn, 0, 0, 0)]
def zm_g42 (pc : Nat) : Option zm_I := zm_lk zm_c42_0 pc
/-- NeedMachine.workName(II)LNeedMachine$Value; -/
def zm_c43_0 : List (Nat × zm_I) := [(0, .aload_n 0, 0, 0, 0), (1, .iload_n 1, 0, 0, 0), (2, .invokevirtual 101, 0, 0, 0), (5, .astore_n 3, 0, 0, 0), (6, .aload_n 3, 0, 0, 0), (7, .getfield 41, 6, 1, 0)]
def zm_c43_1 : List (Nat × zm_I) := [(10, .ifCond .ne 11, 0, 0, 0), (13, .aload_n 0, 0, 0, 0), (14, .aload_n 3, 0, 0, 0), (15, .aconst_null, 0, 0, 0), (16, .iload_n 2, 0, 0, 0), (17, .invokevirtual 190, 0, 0, 0)]
def zm_c43_2 : List (Nat × zm_I) := [(20, .areturn, 0, 0, 0), (21, .aload_n 0, 0, 0, 0), (22, .getfield 19, 0, 1, 0), (25, .iload_n 1, 0, 0, 0), (26, .aconst_null, 0, 0, 0), (27, .invokevirtual 194, 0, 0, 0)]
def zm_c43_3 : List (Nat × zm_I) := [(30, .areturn, 0, 0, 0)]
def zm_g43 (pc : Nat) : Option zm_I := cond (Nat.blt pc 20) (cond (Nat.blt pc 10) (zm_lk zm_c43_0 pc) (zm_lk zm_c43_1 pc)) (cond (Nat.blt pc 30) (zm_lk zm_c43_2 pc) (zm_lk zm_c43_3 pc))
/-- NeedMachine.definitionOf(I)LNeedMachine$Definition; -/
def zm_c44_0 : List (Nat × zm_I) := [(0, .aload_n 0, 0, 0, 0), (1, .getfield 25, 0, 2, 0), (4, .iload_n 1, 0, 0, 0), (5, .aaload, 0, 0, 0), (6, .astore_n 2, 0, 0, 0), (7, .aload_n 2, 0, 0, 0)]
def zm_c44_1 : List (Nat × zm_I) := [(8, .ifnonnull 14, 0, 0, 0), (22, .aload_n 2, 0, 0, 0), (23, .areturn, 0, 0, 0)]
def zm_g44 (pc : Nat) : Option zm_I := cond (Nat.blt pc 8) (zm_lk zm_c44_0 pc) (zm_lk zm_c44_1 pc)
/-- NeedMachine.call(LNeedMachine$Definition;LNeedMachine$Arguments;I)LNeedMachine$Value; -/
def zm_c45_0 : List (Nat × zm_I) := [(0, .aload_n 0, 0, 0, 0), (1, .getfield 55, 0, 4, 0), (4, .sipush 400, 0, 0, 0), (7, .if_icmp .lt 13, 0, 0, 0), (20, .aload_n 0, 0, 0, 0), (21, .dup, 0, 0, 0)]
def zm_c45_1 : List (Nat × zm_I) := [(22, .getfield 55, 0, 4, 0), (25, .iconst 1, 0, 0, 0), (26, .iadd, 0, 0, 0), (27, .putfield 55, 0, 4, 0), (30, .aload_n 0, 0, 0, 0), (31, .dup, 0, 0, 0)]
def zm_c45_2 : List (Nat × zm_I) := [(32, .getfield 115, 0, 5, 0), (35, .iconst 1, 0, 0, 0), (36, .iadd, 0, 0, 0), (37, .putfield 115, 0, 5, 0), (40, .aload_n 0, 0, 0, 0), (41, .aload_n 1, 0, 0, 0)]
def zm_c45_3 : List (Nat × zm_I) := [(42, .getfield 221, 6, 2, 0), (45, .aload_n 2, 0, 0, 0), (46, .iload_n 3, 0, 0, 0), (47, .iconst 1, 0, 0, 0), (48, .iadd, 0, 0, 0), (49, .invokevirtual 61, 0, 0, 0)]
def zm_c45_4 : List (Nat × zm_I) := [(52, .areturn, 0, 0, 0)]
def zm_g45 (pc : Nat) : Option zm_I := cond (Nat.blt pc 32) (cond (Nat.blt pc 22) (zm_lk zm_c45_0 pc) (zm_lk zm_c45_1 pc)) (cond (Nat.blt pc 42) (zm_lk zm_c45_2 pc) (cond (Nat.blt pc 52) (zm_lk zm_c45_3 pc) (zm_lk zm_c45_4 pc)))
/-- NeedMachine$Store.makeFunction(ILNeedMachine$Arguments;)LNeedMachine$Value; -/
def zm_c46_0 : List (Nat × zm_I) := [(0, .aload_n 0, 0, 0, 0), (1, .iconst 3, 0, 0, 0), (2, .invokevirtual 44, 0, 0, 0), (5, .astore_n 3, 0, 0, 0), (6, .aload_n 3, 0, 0, 0), (7, .iload_n 1, 0, 0, 0)]
def zm_c46_1 : List (Nat × zm_I) := [(8, .putfield 48, 3, 1, 0), (11, .aload_n 3, 0, 0, 0), (12, .aload_n 2, 0, 0, 0), (13, .putfield 58, 3, 4, 0), (16, .aload_n 3, 0, 0, 0), (17, .areturn, 0, 0, 0)]
def zm_g46 (pc : Nat) : Option zm_I := cond (Nat.blt pc 8) (zm_lk zm_c46_0 pc) (zm_lk zm_c46_1 pc)
/-- NeedMachine.closureOf(LNeedMachine$Expression;LNeedMachine$Arguments;)LNeedMachine$Closure; -/
def zm_c47_0 : List (Nat × zm_I) := [(0, .aload_n 1, 0, 0, 0), (1, .getfield 139, 7, 0, 0), (4, .bipush 97, 0, 0, 0), (6, .if_icmp .ne 12, 0, 0, 0), (9, .aload_n 2, 0, 0, 0), (10, .aload_n 1, 0, 0, 0)]
def zm_c47_1 : List (Nat × zm_I) := [(11, .getfield 145, 7, 1, 0), (14, .invokestatic 155, 0, 0, 0), (17, .areturn, 0, 0, 0), (18, .aload_n 0, 0, 0, 0), (19, .getfield 19, 0, 1, 0), (22, .aload_n 1, 0, 0, 0)]
def zm_c47_2 : List (Nat × zm_I) := [(23, .aload_n 2, 0, 0, 0), (24, .invokevirtual 254, 0, 0, 0), (27, .areturn, 0, 0, 0)]
def zm_g47 (pc : Nat) : Option zm_I := cond (Nat.blt pc 11) (zm_lk zm_c47_0 pc) (cond (Nat.blt pc 23) (zm_lk zm_c47_1 pc) (zm_lk zm_c47_2 pc))
/-- NeedMachine$Store.makeClosure(LNeedMachine$Expression;LNeedMachine$Arguments;)LNeedMachine$Closure; -/
def zm_c48_0 : List (Nat × zm_I) := [(0, .aload_n 0, 0, 0, 0), (1, .getfield 38, 2, 5, 0), (4, .aload_n 0, 0, 0, 0), (5, .getfield 29, 2, 2, 0), (8, .invokevirtual 62, 0, 0, 0), (11, .if_icmp .lt 18, 0, 0, 0)]
def zm_c48_1 : List (Nat × zm_I) := [(14, .aload_n 0, 0, 0, 0), (15, .getfield 29, 2, 2, 0), (18, .new 66, 8, 0, 0), (21, .dup, 0, 0, 0), (22, .invokespecial 68, 0, 0, 0), (25, .invokevirtual 69, 0, 0, 0)]
def zm_c48_2 : List (Nat × zm_I) := [(28, .pop, 0, 0, 0), (29, .aload_n 0, 0, 0, 0), (30, .getfield 29, 2, 2, 0), (33, .aload_n 0, 0, 0, 0), (34, .getfield 38, 2, 5, 0), (37, .invokevirtual 73, 0, 0, 0)]
def zm_c48_3 : List (Nat × zm_I) := [(40, .checkcast 66, 8, 0, 0), (43, .astore_n 3, 0, 0, 0), (44, .aload_n 0, 0, 0, 0), (45, .dup, 0, 0, 0), (46, .getfield 38, 2, 5, 0), (49, .iconst 1, 0, 0, 0)]
def zm_c48_4 : List (Nat × zm_I) := [(50, .iadd, 0, 0, 0), (51, .putfield 38, 2, 5, 0), (54, .aload_n 3, 0, 0, 0), (55, .aload_n 1, 0, 0, 0), (56, .putfield 77, 8, 0, 0), (59, .aload_n 3, 0, 0, 0)]
def zm_c48_5 : List (Nat × zm_I) := [(60, .aload_n 2, 0, 0, 0), (61, .putfield 81, 8, 1, 0), (64, .aload_n 3, 0, 0, 0), (65, .iconst 0, 0, 0, 0), (66, .putfield 84, 8, 2, 0), (69, .aload_n 3, 0, 0, 0)]
def zm_c48_6 : List (Nat × zm_I) := [(70, .aconst_null, 0, 0, 0), (71, .putfield 88, 8, 3, 0), (74, .aload_n 3, 0, 0, 0), (75, .areturn, 0, 0, 0)]
def zm_g48 (pc : Nat) : Option zm_I := cond (Nat.blt pc 40) (cond (Nat.blt pc 14) (zm_lk zm_c48_0 pc) (cond (Nat.blt pc 28) (zm_lk zm_c48_1 pc) (zm_lk zm_c48_2 pc))) (cond (Nat.blt pc 60) (cond (Nat.blt pc 50) (zm_lk zm_c48_3 pc) (zm_lk zm_c48_4 pc)) (cond (Nat.blt pc 70) (zm_lk zm_c48_5 pc) (zm_lk zm_c48_6 pc)))
/-- NeedMachine$Closure.<init>()V -/
def zm_c49_0 : List (Nat × zm_I) := [(0, .aload_n 0, 0, 0, 0), (1, .invokespecial 1, 0, 0, 0), (4, .return_, 0, 0, 0)]
def zm_g49 (pc : Nat) : Option zm_I := zm_lk zm_c49_0 pc
/-- NeedMachine$Store.makePair(LNeedMachine$Closure;LNeedMachine$Closure;)LNeedMachine$Value; -/
def zm_c50_0 : List (Nat × zm_I) := [(0, .aload_n 0, 0, 0, 0), (1, .iconst 2, 0, 0, 0), (2, .invokevirtual 44, 0, 0, 0), (5, .astore_n 3, 0, 0, 0), (6, .aload_n 3, 0, 0, 0), (7, .aload_n 1, 0, 0, 0)]
def zm_c50_1 : List (Nat × zm_I) := [(8, .putfield 51, 3, 2, 0), (11, .aload_n 3, 0, 0, 0), (12, .aload_n 2, 0, 0, 0), (13, .putfield 55, 3, 3, 0), (16, .aload_n 3, 0, 0, 0), (17, .areturn, 0, 0, 0)]
def zm_g50 (pc : Nat) : Option zm_I := cond (Nat.blt pc 8) (zm_lk zm_c50_0 pc) (zm_lk zm_c50_1 pc)
/-- NeedMachine.apply(LNeedMachine$Expression;LNeedMachine$Arguments;I)LNeedMachine$Value; -/
def zm_c51_0 : List (Nat × zm_I) := [(0, .aload_n 0, 0, 0, 0), (1, .aload_n 1, 0, 0, 0), (2, .getfield 163, 7, 2, 0), (5, .aload_n 2, 0, 0, 0), (6, .iload_n 3, 0, 0, 0), (7, .iconst 1, 0, 0, 0)]
def zm_c51_1 : List (Nat × zm_I) := [(8, .iadd, 0, 0, 0), (9, .invokevirtual 61, 0, 0, 0), (12, .astore 4, 0, 0, 0), (14, .aload 4, 0, 0, 0), (16, .getfield 65, 3, 0, 0), (19, .iconst 3, 0, 0, 0)]
def zm_c51_2 : List (Nat × zm_I) := [(20, .if_icmp .eq 13, 0, 0, 0), (33, .aload_n 0, 0, 0, 0), (34, .aload 4, 0, 0, 0), (36, .getfield 203, 3, 1, 0), (39, .invokevirtual 101, 0, 0, 0), (42, .astore 5, 0, 0, 0)]
def zm_c51_3 : List (Nat × zm_I) := [(44, .aload_n 0, 0, 0, 0), (45, .getfield 19, 0, 1, 0), (48, .aload 4, 0, 0, 0), (50, .getfield 206, 3, 4, 0), (53, .aload_n 0, 0, 0, 0), (54, .aload_n 1, 0, 0, 0)]
def zm_c51_4 : List (Nat × zm_I) := [(55, .getfield 171, 7, 3, 0), (58, .aload_n 2, 0, 0, 0), (59, .invokevirtual 167, 0, 0, 0), (62, .invokevirtual 210, 0, 0, 0), (65, .astore 6, 0, 0, 0), (67, .aload 6, 0, 0, 0)]
def zm_c51_5 : List (Nat × zm_I) := [(69, .getfield 214, 9, 2, 0), (72, .aload 5, 0, 0, 0), (74, .getfield 41, 6, 1, 0), (77, .if_icmp .ge 18, 0, 0, 0), (80, .aload_n 0, 0, 0, 0), (81, .getfield 19, 0, 1, 0)]
def zm_c51_6 : List (Nat × zm_I) := [(84, .aload 4, 0, 0, 0), (86, .getfield 203, 3, 1, 0), (89, .aload 6, 0, 0, 0), (91, .invokevirtual 194, 0, 0, 0), (94, .areturn, 0, 0, 0), (95, .aload_n 0, 0, 0, 0)]
def zm_c51_7 : List (Nat × zm_I) := [(96, .aload 5, 0, 0, 0), (98, .aload 6, 0, 0, 0), (100, .iload_n 3, 0, 0, 0), (101, .invokevirtual 190, 0, 0, 0), (104, .areturn, 0, 0, 0)]
def zm_g51 (pc : Nat) : Option zm_I := cond (Nat.blt pc 55) (cond (Nat.blt pc 20) (cond (Nat.blt pc 8) (zm_lk zm_c51_0 pc) (zm_lk zm_c51_1 pc)) (cond (Nat.blt pc 44) (zm_lk zm_c51_2 pc) (zm_lk zm_c51_3 pc))) (cond (Nat.blt pc 84) (cond (Nat.blt pc 69) (zm_lk zm_c51_4 pc) (zm_lk zm_c51_5 pc)) (cond (Nat.blt pc 96) (zm_lk zm_c51_6 pc) (zm_lk zm_c51_7 pc)))
/-- NeedMachine$Store.makeArguments(LNeedMachine$Arguments;LNeedMachine$Closure;)LNeedMachine$Arguments; -/
def zm_c52_0 : List (Nat × zm_I) := [(0, .aload_n 0, 0, 0, 0), (1, .getfield 41, 2, 6, 0), (4, .aload_n 0, 0, 0, 0), (5, .getfield 32, 2, 3, 0), (8, .invokevirtual 62, 0, 0, 0), (11, .if_icmp .lt 18, 0, 0, 0)]
def zm_c52_1 : List (Nat × zm_I) := [(14, .aload_n 0, 0, 0, 0), (15, .getfield 32, 2, 3, 0), (18, .new 91, 9, 0, 0), (21, .dup, 0, 0, 0), (22, .invokespecial 93, 0, 0, 0), (25, .invokevirtual 69, 0, 0, 0)]
def zm_c52_2 : List (Nat × zm_I) := [(28, .pop, 0, 0, 0), (29, .aload_n 0, 0, 0, 0), (30, .getfield 32, 2, 3, 0), (33, .aload_n 0, 0, 0, 0), (34, .getfield 41, 2, 6, 0), (37, .invokevirtual 73, 0, 0, 0)]
def zm_c52_3 : List (Nat × zm_I) := [(40, .checkcast 91, 9, 0, 0), (43, .astore_n 3, 0, 0, 0), (44, .aload_n 0, 0, 0, 0), (45, .dup, 0, 0, 0), (46, .getfield 41, 2, 6, 0), (49, .iconst 1, 0, 0, 0)]
def zm_c52_4 : List (Nat × zm_I) := [(50, .iadd, 0, 0, 0), (51, .putfield 41, 2, 6, 0), (54, .aload_n 3, 0, 0, 0), (55, .aload_n 1, 0, 0, 0), (56, .putfield 94, 9, 0, 0), (59, .aload_n 3, 0, 0, 0)]
def zm_c52_5 : List (Nat × zm_I) := [(60, .aload_n 2, 0, 0, 0), (61, .putfield 97, 9, 1, 0), (64, .aload_n 3, 0, 0, 0), (65, .aload_n 1, 0, 0, 0), (66, .ifnonnull 7, 0, 0, 0), (69, .iconst 1, 0, 0, 0)]
def zm_c52_6 : List (Nat × zm_I) := [(70, .goto 9, 0, 0, 0), (73, .aload_n 1, 0, 0, 0), (74, .getfield 100, 9, 2, 0), (77, .iconst 1, 0, 0, 0), (78, .iadd, 0, 0, 0), (79, .putfield 100, 9, 2, 0)]
def zm_c52_7 : List (Nat × zm_I) := [(82, .aload_n 3, 0, 0, 0), (83, .areturn, 0, 0, 0)]
def zm_g52 (pc : Nat) : Option zm_I := cond (Nat.blt pc 50) (cond (Nat.blt pc 28) (cond (Nat.blt pc 14) (zm_lk zm_c52_0 pc) (zm_lk zm_c52_1 pc)) (cond (Nat.blt pc 40) (zm_lk zm_c52_2 pc) (zm_lk zm_c52_3 pc))) (cond (Nat.blt pc 70) (cond (Nat.blt pc 60) (zm_lk zm_c52_4 pc) (zm_lk zm_c52_5 pc)) (cond (Nat.blt pc 82) (zm_lk zm_c52_6 pc) (zm_lk zm_c52_7 pc)))
/-- NeedMachine$Arguments.<init>()V -/
def zm_c53_0 : List (Nat × zm_I) := [(0, .aload_n 0, 0, 0, 0), (1, .invokespecial 1, 0, 0, 0), (4, .return_, 0, 0, 0)]
def zm_g53 (pc : Nat) : Option zm_I := zm_lk zm_c53_0 pc
/-- NeedMachine.mustBePair(LNeedMachine$Value;)LNeedMachine$Value; -/
def zm_c54_0 : List (Nat × zm_I) := [(0, .aload_n 0, 0, 0, 0), (1, .getfield 65, 3, 0, 0), (4, .iconst 1, 0, 0, 0), (5, .if_icmp .ne 14, 0, 0, 0), (19, .aload_n 0, 0, 0, 0), (20, .getfield 65, 3, 0, 0)]
def zm_c54_1 : List (Nat × zm_I) := [(23, .iconst 2, 0, 0, 0), (24, .if_icmp .eq 14, 0, 0, 0), (38, .aload_n 0, 0, 0, 0), (39, .areturn, 0, 0, 0)]
def zm_g54 (pc : Nat) : Option zm_I := cond (Nat.blt pc 23) (zm_lk zm_c54_0 pc) (zm_lk zm_c54_1 pc)
/-- NeedMachine.isNil(LNeedMachine$Value;)I -/
def zm_c55_0 : List (Nat × zm_I) := [(0, .aload_n 0, 0, 0, 0), (1, .getfield 65, 3, 0, 0), (4, .iconst 1, 0, 0, 0), (5, .if_icmp .eq 22, 0, 0, 0), (8, .aload_n 0, 0, 0, 0), (9, .getfield 65, 3, 0, 0)]
def zm_c55_1 : List (Nat × zm_I) := [(12, .iconst 2, 0, 0, 0), (13, .if_icmp .eq 14, 0, 0, 0), (27, .aload_n 0, 0, 0, 0), (28, .getfield 65, 3, 0, 0), (31, .iconst 1, 0, 0, 0), (32, .if_icmp .ne 7, 0, 0, 0)]
def zm_c55_2 : List (Nat × zm_I) := [(35, .iconst 1, 0, 0, 0), (36, .goto 4, 0, 0, 0), (39, .iconst 0, 0, 0, 0), (40, .ireturn, 0, 0, 0)]
def zm_g55 (pc : Nat) : Option zm_I := cond (Nat.blt pc 12) (zm_lk zm_c55_0 pc) (cond (Nat.blt pc 35) (zm_lk zm_c55_1 pc) (zm_lk zm_c55_2 pc))
/-- NeedMachine.choose(LNeedMachine$Expression;LNeedMachine$Arguments;I)LNeedMachine$Value; -/
def zm_c56_0 : List (Nat × zm_I) := [(0, .aload_n 0, 0, 0, 0), (1, .aload_n 1, 0, 0, 0), (2, .getfield 163, 7, 2, 0), (5, .aload_n 2, 0, 0, 0), (6, .iload_n 3, 0, 0, 0), (7, .iconst 1, 0, 0, 0)]
def zm_c56_1 : List (Nat × zm_I) := [(8, .iadd, 0, 0, 0), (9, .invokevirtual 61, 0, 0, 0), (12, .invokestatic 77, 0, 0, 0), (15, .istore 4, 0, 0, 0), (17, .aload_n 0, 0, 0, 0), (18, .iload 4, 0, 0, 0)]
def zm_c56_2 : List (Nat × zm_I) := [(20, .ifCond .eq 10, 0, 0, 0), (23, .aload_n 1, 0, 0, 0), (24, .getfield 171, 7, 3, 0), (27, .goto 7, 0, 0, 0), (30, .aload_n 1, 0, 0, 0), (31, .getfield 224, 7, 4, 0)]
def zm_c56_3 : List (Nat × zm_I) := [(34, .aload_n 2, 0, 0, 0), (35, .iload_n 3, 0, 0, 0), (36, .iconst 1, 0, 0, 0), (37, .iadd, 0, 0, 0), (38, .invokevirtual 61, 0, 0, 0), (41, .areturn, 0, 0, 0)]
def zm_g56 (pc : Nat) : Option zm_I := cond (Nat.blt pc 20) (cond (Nat.blt pc 8) (zm_lk zm_c56_0 pc) (zm_lk zm_c56_1 pc)) (cond (Nat.blt pc 34) (zm_lk zm_c56_2 pc) (zm_lk zm_c56_3 pc))
/-- NeedMachine.mustBeNumber(LNeedMachine$Value;)I -/
def zm_c57_0 : List (Nat × zm_I) := [(0, .aload_n 0, 0, 0, 0), (1, .getfield 65, 3, 0, 0), (4, .ifCond .eq 14, 0, 0, 0), (18, .aload_n 0, 0, 0, 0), (19, .getfield 203, 3, 1, 0), (22, .ireturn, 0, 0, 0)]
def zm_g57 (pc : Nat) : Option zm_I := zm_lk zm_c57_0 pc
/-- NeedMachine.reckon(LNeedMachine$Expression;LNeedMachine$Arguments;I)LNeedMachine$Value; -/
def zm_c58_0 : List (Nat × zm_I) := [(0, .aload_n 0, 0, 0, 0), (1, .aload_n 1, 0, 0, 0), (2, .getfield 163, 7, 2, 0), (5, .aload_n 2, 0, 0, 0), (6, .iload_n 3, 0, 0, 0), (7, .iconst 1, 0, 0, 0)]
def zm_c58_1 : List (Nat × zm_I) := [(8, .iadd, 0, 0, 0), (9, .invokevirtual 61, 0, 0, 0), (12, .invokestatic 77, 0, 0, 0), (15, .istore 4, 0, 0, 0), (17, .aload_n 0, 0, 0, 0), (18, .aload_n 1, 0, 0, 0)]
def zm_c58_2 : List (Nat × zm_I) := [(19, .getfield 171, 7, 3, 0), (22, .aload_n 2, 0, 0, 0), (23, .iload_n 3, 0, 0, 0), (24, .iconst 1, 0, 0, 0), (25, .iadd, 0, 0, 0), (26, .invokevirtual 61, 0, 0, 0)]
def zm_c58_3 : List (Nat × zm_I) := [(29, .invokestatic 77, 0, 0, 0), (32, .istore 5, 0, 0, 0), (34, .aload_n 0, 0, 0, 0), (35, .getfield 19, 0, 1, 0), (38, .aload_n 1, 0, 0, 0), (39, .getfield 139, 7, 0, 0)]
def zm_c58_4 : List (Nat × zm_I) := [(42, .iload 4, 0, 0, 0), (44, .iload 5, 0, 0, 0), (46, .invokestatic 227, 0, 0, 0), (49, .invokevirtual 148, 0, 0, 0), (52, .areturn, 0, 0, 0)]
def zm_g58 (pc : Nat) : Option zm_I := cond (Nat.blt pc 19) (cond (Nat.blt pc 8) (zm_lk zm_c58_0 pc) (zm_lk zm_c58_1 pc)) (cond (Nat.blt pc 29) (zm_lk zm_c58_2 pc) (cond (Nat.blt pc 42) (zm_lk zm_c58_3 pc) (zm_lk zm_c58_4 pc)))
/-- NeedMachine.reckonNumbers(CII)I -/
def zm_c59_0 : List (Nat × zm_I) := [(0, .iload_n 0, 0, 0, 0), (1, .lookupswitch 96 #[(37, 78), (42, 67), (43, 59), (45, 63), (47, 71), (60, 85)], 59, 0, 0), (60, .iload_n 1, 0, 0, 0), (61, .iload_n 2, 0, 0, 0), (62, .iadd, 0, 0, 0), (63, .ireturn, 0, 0, 0)]
def zm_c59_1 : List (Nat × zm_I) := [(64, .iload_n 1, 0, 0, 0), (65, .iload_n 2, 0, 0, 0), (66, .isub, 0, 0, 0), (67, .ireturn, 0, 0, 0), (68, .iload_n 1, 0, 0, 0), (69, .iload_n 2, 0, 0, 0)]
def zm_c59_2 : List (Nat × zm_I) := [(70, .imul, 0, 0, 0), (71, .ireturn, 0, 0, 0), (72, .iload_n 1, 0, 0, 0), (73, .iload_n 2, 0, 0, 0), (74, .invokestatic 231, 0, 0, 0), (77, .idiv, 0, 0, 0)]
def zm_c59_3 : List (Nat × zm_I) := [(78, .ireturn, 0, 0, 0), (79, .iload_n 1, 0, 0, 0), (80, .iload_n 2, 0, 0, 0), (81, .invokestatic 231, 0, 0, 0), (84, .irem, 0, 0, 0), (85, .ireturn, 0, 0, 0)]
def zm_c59_4 : List (Nat × zm_I) := [(86, .iload_n 1, 0, 0, 0), (87, .iload_n 2, 0, 0, 0), (88, .if_icmp .ge 7, 0, 0, 0), (91, .iconst 1, 0, 0, 0), (92, .goto 4, 0, 0, 0), (95, .iconst 0, 0, 0, 0)]
def zm_c59_5 : List (Nat × zm_I) := [(96, .ireturn, 0, 0, 0), (97, .iload_n 1, 0, 0, 0), (98, .iload_n 2, 0, 0, 0), (99, .if_icmp .ne 7, 0, 0, 0), (102, .iconst 1, 0, 0, 0), (103, .goto 4, 0, 0, 0)]
def zm_c59_6 : List (Nat × zm_I) := [(106, .iconst 0, 0, 0, 0), (107, .ireturn, 0, 0, 0)]
def zm_g59 (pc : Nat) : Option zm_I := cond (Nat.blt pc 78) (cond (Nat.blt pc 64) (zm_lk zm_c59_0 pc) (cond (Nat.blt pc 70) (zm_lk zm_c59_1 pc) (zm_lk zm_c59_2 pc))) (cond (Nat.blt pc 96) (cond (Nat.blt pc 86) (zm_lk zm_c59_3 pc) (zm_lk zm_c59_4 pc)) (cond (Nat.blt pc 106) (zm_lk zm_c59_5 pc) (zm_lk zm_c59_6 pc)))
/-- NeedMachine.mustNotBeZero(I)I -/
def zm_c60_0 : List (Nat × zm_I) := [(0, .iload_n 0, 0, 0, 0), (1, .ifCond .ne 14, 0, 0, 0), (15, .iload_n 0, 0, 0, 0), (16, .ireturn, 0, 0, 0)]
def zm_g60 (pc : Nat) : Option zm_I := zm_lk zm_c60_0 pc
/-- NeedMachineLaw.number(LNeedMachine;[J)I -/
def zm_c61_0 : List (Nat × zm_I) := [(0, .aload_n 1, 0, 0, 0), (1, .iconst 0, 0, 0, 0), (2, .aload_n 0, 0, 0, 0), (3, .invokevirtual 30, 0, 0, 0), (6, .i2l, 0, 0, 0), (7, .lastore, 0, 0, 0)]
def zm_c61_1 : List (Nat × zm_I) := [(8, .goto 9, 0, 0, 0), (11, .astore_n 2, 0, 0, 0), (12, .iconst 1, 0, 0, 0), (13, .ireturn, 0, 0, 0), (14, .astore_n 2, 0, 0, 0), (15, .iconst 2, 0, 0, 0)]
def zm_c61_2 : List (Nat × zm_I) := [(16, .ireturn, 0, 0, 0), (17, .iconst 0, 0, 0, 0), (18, .ireturn, 0, 0, 0)]
def zm_g61 (pc : Nat) : Option zm_I := cond (Nat.blt pc 8) (zm_lk zm_c61_0 pc) (cond (Nat.blt pc 16) (zm_lk zm_c61_1 pc) (zm_lk zm_c61_2 pc))
/-- NeedMachine.number()I -/
def zm_c62_0 : List (Nat × zm_I) := [(0, .aload_n 0, 0, 0, 0), (1, .getfield 48, 0, 3, 0), (4, .ifnonnull 13, 0, 0, 0), (17, .aload_n 0, 0, 0, 0), (18, .getfield 48, 0, 3, 0), (21, .invokestatic 77, 0, 0, 0)]
def zm_c62_1 : List (Nat × zm_I) := [(24, .ireturn, 0, 0, 0)]
def zm_g62 (pc : Nat) : Option zm_I := cond (Nat.blt pc 24) (zm_lk zm_c62_0 pc) (zm_lk zm_c62_1 pc)
/-- NeedMachineLaw.head(LNeedMachine;[J)I -/
def zm_c63_0 : List (Nat × zm_I) := [(0, .aload_n 1, 0, 0, 0), (1, .iconst 0, 0, 0, 0), (2, .aload_n 0, 0, 0, 0), (3, .invokevirtual 33, 0, 0, 0), (6, .i2l, 0, 0, 0), (7, .lastore, 0, 0, 0)]
def zm_c63_1 : List (Nat × zm_I) := [(8, .goto 15, 0, 0, 0), (11, .astore_n 2, 0, 0, 0), (12, .iconst 1, 0, 0, 0), (13, .ireturn, 0, 0, 0), (14, .astore_n 2, 0, 0, 0), (15, .iconst 2, 0, 0, 0)]
def zm_c63_2 : List (Nat × zm_I) := [(16, .ireturn, 0, 0, 0), (17, .astore_n 2, 0, 0, 0), (18, .iconst 3, 0, 0, 0), (19, .ireturn, 0, 0, 0), (20, .astore_n 2, 0, 0, 0), (21, .iconst 4, 0, 0, 0)]
def zm_c63_3 : List (Nat × zm_I) := [(22, .ireturn, 0, 0, 0), (23, .iconst 0, 0, 0, 0), (24, .ireturn, 0, 0, 0)]
def zm_g63 (pc : Nat) : Option zm_I := cond (Nat.blt pc 16) (cond (Nat.blt pc 8) (zm_lk zm_c63_0 pc) (zm_lk zm_c63_1 pc)) (cond (Nat.blt pc 22) (zm_lk zm_c63_2 pc) (zm_lk zm_c63_3 pc))
/-- NeedMachine.head()I -/
def zm_c64_0 : List (Nat × zm_I) := [(0, .aload_n 0, 0, 0, 0), (1, .invokevirtual 81, 0, 0, 0), (4, .astore_n 1, 0, 0, 0), (5, .aload_n 0, 0, 0, 0), (6, .aload_n 1, 0, 0, 0), (7, .getfield 85, 3, 2, 0)]
def zm_c64_1 : List (Nat × zm_I) := [(10, .iconst 0, 0, 0, 0), (11, .invokevirtual 89, 0, 0, 0), (14, .invokestatic 77, 0, 0, 0), (17, .istore_n 2, 0, 0, 0), (18, .aload_n 0, 0, 0, 0), (19, .aload_n 1, 0, 0, 0)]
def zm_c64_2 : List (Nat × zm_I) := [(20, .putfield 48, 0, 3, 0), (23, .iload_n 2, 0, 0, 0), (24, .ireturn, 0, 0, 0)]
def zm_g64 (pc : Nat) : Option zm_I := cond (Nat.blt pc 10) (zm_lk zm_c64_0 pc) (cond (Nat.blt pc 20) (zm_lk zm_c64_1 pc) (zm_lk zm_c64_2 pc))
/-- NeedMachine.takeResultPair()LNeedMachine$Value; -/
def zm_c65_0 : List (Nat × zm_I) := [(0, .aload_n 0, 0, 0, 0), (1, .getfield 48, 0, 3, 0), (4, .astore_n 1, 0, 0, 0), (5, .aload_n 0, 0, 0, 0), (6, .aconst_null, 0, 0, 0), (7, .putfield 48, 0, 3, 0)]
def zm_c65_1 : List (Nat × zm_I) := [(10, .aload_n 1, 0, 0, 0), (11, .ifnonnull 13, 0, 0, 0), (24, .aload_n 1, 0, 0, 0), (25, .invokestatic 124, 0, 0, 0), (28, .areturn, 0, 0, 0)]
def zm_g65 (pc : Nat) : Option zm_I := cond (Nat.blt pc 10) (zm_lk zm_c65_0 pc) (zm_lk zm_c65_1 pc)
/-- NeedMachineLaw.tail(LNeedMachine;[J)I -/
def zm_c66_0 : List (Nat × zm_I) := [(0, .aload_n 1, 0, 0, 0), (1, .iconst 0, 0, 0, 0), (2, .aload_n 0, 0, 0, 0), (3, .invokevirtual 36, 0, 0, 0), (6, .i2l, 0, 0, 0), (7, .lastore, 0, 0, 0)]
def zm_c66_1 : List (Nat × zm_I) := [(8, .goto 15, 0, 0, 0), (11, .astore_n 2, 0, 0, 0), (12, .iconst 1, 0, 0, 0), (13, .ireturn, 0, 0, 0), (14, .astore_n 2, 0, 0, 0), (15, .iconst 2, 0, 0, 0)]
def zm_c66_2 : List (Nat × zm_I) := [(16, .ireturn, 0, 0, 0), (17, .astore_n 2, 0, 0, 0), (18, .iconst 3, 0, 0, 0), (19, .ireturn, 0, 0, 0), (20, .astore_n 2, 0, 0, 0), (21, .iconst 4, 0, 0, 0)]
def zm_c66_3 : List (Nat × zm_I) := [(22, .ireturn, 0, 0, 0), (23, .iconst 0, 0, 0, 0), (24, .ireturn, 0, 0, 0)]
def zm_g66 (pc : Nat) : Option zm_I := cond (Nat.blt pc 16) (cond (Nat.blt pc 8) (zm_lk zm_c66_0 pc) (zm_lk zm_c66_1 pc)) (cond (Nat.blt pc 22) (zm_lk zm_c66_2 pc) (zm_lk zm_c66_3 pc))
/-- NeedMachine.tail()I -/
def zm_c67_0 : List (Nat × zm_I) := [(0, .aload_n 0, 0, 0, 0), (1, .invokevirtual 81, 0, 0, 0), (4, .astore_n 1, 0, 0, 0), (5, .aload_n 0, 0, 0, 0), (6, .aload_n 0, 0, 0, 0), (7, .aload_n 1, 0, 0, 0)]
def zm_c67_1 : List (Nat × zm_I) := [(8, .getfield 93, 3, 3, 0), (11, .iconst 0, 0, 0, 0), (12, .invokevirtual 89, 0, 0, 0), (15, .putfield 48, 0, 3, 0), (18, .aload_n 0, 0, 0, 0), (19, .getfield 48, 0, 3, 0)]
def zm_c67_2 : List (Nat × zm_I) := [(22, .getfield 65, 3, 0, 0), (25, .ireturn, 0, 0, 0)]
def zm_g67 (pc : Nat) : Option zm_I := cond (Nat.blt pc 8) (zm_lk zm_c67_0 pc) (cond (Nat.blt pc 22) (zm_lk zm_c67_1 pc) (zm_lk zm_c67_2 pc))
/-- NeedMachineLaw.remove(LNeedMachine;I)I -/
def zm_c68_0 : List (Nat × zm_I) := [(0, .aload_n 0, 0, 0, 0), (1, .iload_n 1, 0, 0, 0), (2, .invokevirtual 39, 0, 0, 0), (5, .goto 9, 0, 0, 0), (8, .astore_n 2, 0, 0, 0), (9, .iconst 1, 0, 0, 0)]
def zm_c68_1 : List (Nat × zm_I) := [(10, .ireturn, 0, 0, 0), (11, .astore_n 2, 0, 0, 0), (12, .iconst 2, 0, 0, 0), (13, .ireturn, 0, 0, 0), (14, .iconst 0, 0, 0, 0), (15, .ireturn, 0, 0, 0)]
def zm_g68 (pc : Nat) : Option zm_I := cond (Nat.blt pc 10) (zm_lk zm_c68_0 pc) (zm_lk zm_c68_1 pc)
/-- NeedMachine.remove(I)V -/
def zm_c69_0 : List (Nat × zm_I) := [(0, .iload_n 1, 0, 0, 0), (1, .ifCond .lt 9, 0, 0, 0), (4, .iload_n 1, 0, 0, 0), (5, .bipush 6, 0, 0, 0), (7, .if_icmp .lt 13, 0, 0, 0), (20, .aload_n 0, 0, 0, 0)]
def zm_c69_1 : List (Nat × zm_I) := [(21, .iload_n 1, 0, 0, 0), (22, .invokevirtual 101, 0, 0, 0), (25, .pop, 0, 0, 0), (26, .aload_n 0, 0, 0, 0), (27, .getfield 25, 0, 2, 0), (30, .iload_n 1, 0, 0, 0)]
def zm_c69_2 : List (Nat × zm_I) := [(31, .aconst_null, 0, 0, 0), (32, .aastore, 0, 0, 0), (33, .return_, 0, 0, 0)]
def zm_g69 (pc : Nat) : Option zm_I := cond (Nat.blt pc 21) (zm_lk zm_c69_0 pc) (cond (Nat.blt pc 31) (zm_lk zm_c69_1 pc) (zm_lk zm_c69_2 pc))
/-- NeedMachineModel.<init>()V -/
def zm_c70_0 : List (Nat × zm_I) := [(0, .aload_n 0, 0, 0, 0), (1, .invokespecial 1, 0, 0, 0), (4, .aload_n 0, 0, 0, 0), (5, .bipush 40, 0, 0, 0), (7, .newarray .int, 0, 0, 0), (9, .putfield 7, 5, 0, 0)]
def zm_c70_1 : List (Nat × zm_I) := [(12, .aload_n 0, 0, 0, 0), (13, .sipush 21200, 0, 0, 0), (16, .newarray .int, 0, 0, 0), (18, .putfield 13, 5, 1, 0), (21, .aload_n 0, 0, 0, 0), (22, .sipush 240, 0, 0, 0)]
def zm_c70_2 : List (Nat × zm_I) := [(25, .newarray .int, 0, 0, 0), (27, .putfield 16, 5, 2, 0), (30, .aload_n 0, 0, 0, 0), (31, .bipush 6, 0, 0, 0), (33, .newarray .int, 0, 0, 0), (35, .putfield 19, 5, 3, 0)]
def zm_c70_3 : List (Nat × zm_I) := [(38, .aload_n 0, 0, 0, 0), (39, .bipush 24, 0, 0, 0), (41, .newarray .int, 0, 0, 0), (43, .putfield 22, 5, 4, 0), (46, .aload_n 0, 0, 0, 0), (47, .bipush 6, 0, 0, 0)]
def zm_c70_4 : List (Nat × zm_I) := [(49, .newarray .int, 0, 0, 0), (51, .putfield 25, 5, 5, 0), (54, .aload_n 0, 0, 0, 0), (55, .bipush 16, 0, 0, 0), (57, .newarray .int, 0, 0, 0), (59, .putfield 28, 5, 6, 0)]
def zm_c70_5 : List (Nat × zm_I) := [(62, .aload_n 0, 0, 0, 0), (63, .bipush 6, 0, 0, 0), (65, .newarray .boolean, 3, 0, 0), (67, .putfield 31, 5, 7, 0), (70, .aload_n 0, 0, 0, 0), (71, .iconst (-1), 0, 0, 0)]
def zm_c70_6 : List (Nat × zm_I) := [(72, .putfield 35, 5, 9, 0), (75, .aload_n 0, 0, 0, 0), (76, .sipush 16400, 0, 0, 0), (79, .newarray .int, 0, 0, 0), (81, .putfield 39, 5, 13, 0), (84, .aload_n 0, 0, 0, 0)]
def zm_c70_7 : List (Nat × zm_I) := [(85, .sipush 16400, 0, 0, 0), (88, .newarray .int, 0, 0, 0), (90, .putfield 42, 5, 14, 0), (93, .aload_n 0, 0, 0, 0), (94, .sipush 16400, 0, 0, 0), (97, .newarray .int, 0, 0, 0)]
def zm_c70_8 : List (Nat × zm_I) := [(99, .putfield 45, 5, 15, 0), (102, .aload_n 0, 0, 0, 0), (103, .sipush 16400, 0, 0, 0), (106, .newarray .int, 0, 0, 0), (108, .putfield 48, 5, 16, 0), (111, .aload_n 0, 0, 0, 0)]
def zm_c70_9 : List (Nat × zm_I) := [(112, .sipush 16400, 0, 0, 0), (115, .newarray .int, 0, 0, 0), (117, .putfield 51, 5, 17, 0), (120, .aload_n 0, 0, 0, 0), (121, .sipush 16400, 0, 0, 0), (124, .newarray .int, 0, 0, 0)]
def zm_c70_10 : List (Nat × zm_I) := [(126, .putfield 54, 5, 18, 0), (129, .aload_n 0, 0, 0, 0), (130, .sipush 1700, 0, 0, 0), (133, .newarray .int, 0, 0, 0), (135, .putfield 57, 5, 19, 0), (138, .aload_n 0, 0, 0, 0)]
def zm_c70_11 : List (Nat × zm_I) := [(139, .sipush 1700, 0, 0, 0), (142, .newarray .int, 0, 0, 0), (144, .putfield 60, 5, 20, 0), (147, .aload_n 0, 0, 0, 0), (148, .sipush 16400, 0, 0, 0), (151, .newarray .int, 0, 0, 0)]
def zm_c70_12 : List (Nat × zm_I) := [(153, .putfield 63, 5, 21, 0), (156, .aload_n 0, 0, 0, 0), (157, .sipush 16400, 0, 0, 0), (160, .newarray .int, 0, 0, 0), (162, .putfield 66, 5, 22, 0), (165, .aload_n 0, 0, 0, 0)]
def zm_c70_13 : List (Nat × zm_I) := [(166, .bipush 64, 0, 0, 0), (168, .newarray .int, 0, 0, 0), (170, .putfield 69, 5, 26, 0), (173, .aload_n 0, 0, 0, 0), (174, .bipush 64, 0, 0, 0), (176, .newarray .int, 0, 0, 0)]
def zm_c70_14 : List (Nat × zm_I) := [(178, .putfield 72, 5, 27, 0), (181, .aload_n 0, 0, 0, 0), (182, .bipush 64, 0, 0, 0), (184, .newarray .int, 0, 0, 0), (186, .putfield 75, 5, 28, 0), (189, .aload_n 0, 0, 0, 0)]
def zm_c70_15 : List (Nat × zm_I) := [(190, .bipush 64, 0, 0, 0), (192, .newarray .int, 0, 0, 0), (194, .putfield 78, 5, 29, 0), (197, .aload_n 0, 0, 0, 0), (198, .bipush 64, 0, 0, 0), (200, .newarray .int, 0, 0, 0)]
def zm_c70_16 : List (Nat × zm_I) := [(202, .putfield 81, 5, 30, 0), (205, .return_, 0, 0, 0)]
def zm_g70 (pc : Nat) : Option zm_I := cond (Nat.blt pc 99) (cond (Nat.blt pc 49) (cond (Nat.blt pc 25) (cond (Nat.blt pc 12) (zm_lk zm_c70_0 pc) (zm_lk zm_c70_1 pc)) (cond (Nat.blt pc 38) (zm_lk zm_c70_2 pc) (zm_lk zm_c70_3 pc))) (cond (Nat.blt pc 72) (cond (Nat.blt pc 62) (zm_lk zm_c70_4 pc) (zm_lk zm_c70_5 pc)) (cond (Nat.blt pc 85) (zm_lk zm_c70_6 pc) (zm_lk zm_c70_7 pc)))) (cond (Nat.blt pc 153) (cond (Nat.blt pc 126) (cond (Nat.blt pc 112) (zm_lk zm_c70_8 pc) (zm_lk zm_c70_9 pc)) (cond (Nat.blt pc 139) (zm_lk zm_c70_10 pc) (zm_lk zm_c70_11 pc))) (cond (Nat.blt pc 178) (cond (Nat.blt pc 166) (zm_lk zm_c70_12 pc) (zm_lk zm_c70_13 pc)) (cond (Nat.blt pc 190) (zm_lk zm_c70_14 pc) (cond (Nat.blt pc 202) (zm_lk zm_c70_15 pc) (zm_lk zm_c70_16 pc)))))
/-- NeedMachineModel.type(J)I -/
def zm_c71_0 : List (Nat × zm_I) := [(0, .iconst 0, 0, 0, 0), (1, .istore_n 3, 0, 0, 0), (2, .iconst 1, 0, 0, 0), (3, .istore 4, 0, 0, 0), (5, .bipush 56, 0, 0, 0), (7, .istore 5, 0, 0, 0)]
def zm_c71_1 : List (Nat × zm_I) := [(9, .iload 5, 0, 0, 0), (11, .ifCond .lt 48, 0, 0, 0), (14, .lload_n 1, 0, 0, 0), (15, .iload 5, 0, 0, 0), (17, .lushr, 0, 0, 0), (18, .l2i, 0, 0, 0)]
def zm_c71_2 : List (Nat × zm_I) := [(19, .sipush 255, 0, 0, 0), (22, .iand, 0, 0, 0), (23, .istore 6, 0, 0, 0), (25, .iload 6, 0, 0, 0), (27, .ifCond .eq 6, 0, 0, 0), (30, .iinc 3 1, 0, 0, 0)]
def zm_c71_3 : List (Nat × zm_I) := [(33, .iload 6, 0, 0, 0), (35, .ifCond .eq 18, 0, 0, 0), (38, .iload 6, 0, 0, 0), (40, .bipush 33, 0, 0, 0), (42, .bipush 126, 0, 0, 0), (44, .invokestatic 87, 0, 0, 0)]
def zm_c71_4 : List (Nat × zm_I) := [(47, .ifCond .ne 6, 0, 0, 0), (50, .iconst 0, 0, 0, 0), (51, .istore 4, 0, 0, 0), (53, .iinc 5 (-8), 0, 0, 0), (56, .goto (-47), 0, 0, 0), (59, .aload_n 0, 0, 0, 0)]
def zm_c71_5 : List (Nat × zm_I) := [(60, .iload 4, 0, 0, 0), (62, .invokevirtual 91, 0, 0, 0), (65, .ifCond .eq 5, 0, 0, 0), (68, .iconst 0, 0, 0, 0), (69, .ireturn, 0, 0, 0), (70, .aload_n 0, 0, 0, 0)]
def zm_c71_6 : List (Nat × zm_I) := [(71, .getfield 95, 5, 8, 0), (74, .iload_n 3, 0, 0, 0), (75, .iadd, 0, 0, 0), (76, .bipush 40, 0, 0, 0), (78, .if_icmp .le 9, 0, 0, 0), (81, .aload_n 0, 0, 0, 0)]
def zm_c71_7 : List (Nat × zm_I) := [(82, .iconst 2, 0, 0, 0), (83, .invokevirtual 98, 0, 0, 0), (86, .ireturn, 0, 0, 0), (87, .bipush 56, 0, 0, 0), (89, .istore 5, 0, 0, 0), (91, .iload 5, 0, 0, 0)]
def zm_c71_8 : List (Nat × zm_I) := [(93, .ifCond .lt 49, 0, 0, 0), (96, .lload_n 1, 0, 0, 0), (97, .iload 5, 0, 0, 0), (99, .lushr, 0, 0, 0), (100, .l2i, 0, 0, 0), (101, .sipush 255, 0, 0, 0)]
def zm_c71_9 : List (Nat × zm_I) := [(104, .iand, 0, 0, 0), (105, .istore 6, 0, 0, 0), (107, .iload 6, 0, 0, 0), (109, .ifCond .ne 6, 0, 0, 0), (112, .goto 24, 0, 0, 0), (115, .aload_n 0, 0, 0, 0)]
def zm_c71_10 : List (Nat × zm_I) := [(116, .getfield 7, 5, 0, 0), (119, .aload_n 0, 0, 0, 0), (120, .getfield 95, 5, 8, 0), (123, .iload 6, 0, 0, 0), (125, .iastore, 0, 0, 0), (126, .aload_n 0, 0, 0, 0)]
def zm_c71_11 : List (Nat × zm_I) := [(127, .dup, 0, 0, 0), (128, .getfield 95, 5, 8, 0), (131, .iconst 1, 0, 0, 0), (132, .iadd, 0, 0, 0), (133, .putfield 95, 5, 8, 0), (136, .iinc 5 (-8), 0, 0, 0)]
def zm_c71_12 : List (Nat × zm_I) := [(139, .goto (-48), 0, 0, 0), (142, .aload_n 0, 0, 0, 0), (143, .getfield 95, 5, 8, 0), (146, .ireturn, 0, 0, 0)]
def zm_g71 (pc : Nat) : Option zm_I := cond (Nat.blt pc 71) (cond (Nat.blt pc 33) (cond (Nat.blt pc 9) (zm_lk zm_c71_0 pc) (cond (Nat.blt pc 19) (zm_lk zm_c71_1 pc) (zm_lk zm_c71_2 pc))) (cond (Nat.blt pc 47) (zm_lk zm_c71_3 pc) (cond (Nat.blt pc 60) (zm_lk zm_c71_4 pc) (zm_lk zm_c71_5 pc)))) (cond (Nat.blt pc 104) (cond (Nat.blt pc 82) (zm_lk zm_c71_6 pc) (cond (Nat.blt pc 93) (zm_lk zm_c71_7 pc) (zm_lk zm_c71_8 pc))) (cond (Nat.blt pc 127) (cond (Nat.blt pc 116) (zm_lk zm_c71_9 pc) (zm_lk zm_c71_10 pc)) (cond (Nat.blt pc 139) (zm_lk zm_c71_11 pc) (zm_lk zm_c71_12 pc))))
/-- NeedMachineModel.between(III)Z -/
def zm_c72_0 : List (Nat × zm_I) := [(0, .iload_n 0, 0, 0, 0), (1, .iload_n 1, 0, 0, 0), (2, .if_icmp .lt 12, 0, 0, 0), (5, .iload_n 0, 0, 0, 0), (6, .iload_n 2, 0, 0, 0), (7, .if_icmp .gt 7, 0, 0, 0)]
def zm_c72_1 : List (Nat × zm_I) := [(10, .iconst 1, 0, 0, 0), (11, .goto 4, 0, 0, 0), (14, .iconst 0, 0, 0, 0), (15, .ireturn, 0, 0, 0)]
def zm_g72 (pc : Nat) : Option zm_I := cond (Nat.blt pc 10) (zm_lk zm_c72_0 pc) (zm_lk zm_c72_1 pc)
/-- NeedMachineModel.bad(Z)Z -/
def zm_c73_0 : List (Nat × zm_I) := [(0, .aload_n 0, 0, 0, 0), (1, .iload_n 1, 0, 0, 0), (2, .ifCond .eq 7, 0, 0, 0), (5, .iconst 0, 0, 0, 0), (6, .goto 4, 0, 0, 0), (9, .iconst 1, 0, 0, 0)]
def zm_c73_1 : List (Nat × zm_I) := [(10, .putfield 84, 5, 12, 0), (13, .iload_n 1, 0, 0, 0), (14, .ifCond .ne 7, 0, 0, 0), (17, .iconst 1, 0, 0, 0), (18, .goto 4, 0, 0, 0), (21, .iconst 0, 0, 0, 0)]
def zm_c73_2 : List (Nat × zm_I) := [(22, .ireturn, 0, 0, 0)]
def zm_g73 (pc : Nat) : Option zm_I := cond (Nat.blt pc 10) (zm_lk zm_c73_0 pc) (cond (Nat.blt pc 22) (zm_lk zm_c73_1 pc) (zm_lk zm_c73_2 pc))
/-- NeedMachineModel.fail(I)I -/
def zm_c74_0 : List (Nat × zm_I) := [(0, .aload_n 0, 0, 0, 0), (1, .iload_n 1, 0, 0, 0), (2, .putfield 84, 5, 12, 0), (5, .iconst 0, 0, 0, 0), (6, .ireturn, 0, 0, 0)]
def zm_g74 (pc : Nat) : Option zm_I := zm_lk zm_c74_0 pc
/-- NeedMachineModel.define()I -/
def zm_c75_0 : List (Nat × zm_I) := [(0, .iconst 4, 0, 0, 0), (1, .newarray .int, 0, 0, 0), (3, .dup, 0, 0, 0), (4, .iconst 0, 0, 0, 0), (5, .iconst 0, 0, 0, 0), (6, .iastore, 0, 0, 0)]
def zm_c75_1 : List (Nat × zm_I) := [(7, .dup, 0, 0, 0), (8, .iconst 1, 0, 0, 0), (9, .iconst 0, 0, 0, 0), (10, .iastore, 0, 0, 0), (11, .dup, 0, 0, 0), (12, .iconst 2, 0, 0, 0)]
def zm_c75_2 : List (Nat × zm_I) := [(13, .iconst 0, 0, 0, 0), (14, .iastore, 0, 0, 0), (15, .dup, 0, 0, 0), (16, .iconst 3, 0, 0, 0), (17, .iconst 0, 0, 0, 0), (18, .iastore, 0, 0, 0)]
def zm_c75_3 : List (Nat × zm_I) := [(19, .astore_n 1, 0, 0, 0), (20, .aload_n 0, 0, 0, 0), (21, .iconst 0, 0, 0, 0), (22, .putfield 102, 5, 10, 0), (25, .aload_n 0, 0, 0, 0), (26, .aload_n 1, 0, 0, 0)]
def zm_c75_4 : List (Nat × zm_I) := [(27, .invokevirtual 115, 0, 0, 0), (30, .istore_n 2, 0, 0, 0), (31, .aload_n 0, 0, 0, 0), (32, .getfield 102, 5, 10, 0), (35, .istore_n 3, 0, 0, 0), (36, .iload_n 2, 0, 0, 0)]
def zm_c75_5 : List (Nat × zm_I) := [(37, .ifCond .lt 15, 0, 0, 0), (40, .aload_n 0, 0, 0, 0), (41, .iload_n 2, 0, 0, 0), (42, .invokevirtual 119, 0, 0, 0), (45, .ifCond .eq 7, 0, 0, 0), (48, .iconst 1, 0, 0, 0)]
def zm_c75_6 : List (Nat × zm_I) := [(49, .goto 4, 0, 0, 0), (52, .iconst 0, 0, 0, 0), (53, .istore 4, 0, 0, 0), (55, .iload 4, 0, 0, 0), (57, .ifCond .ne 11, 0, 0, 0), (60, .aload_n 0, 0, 0, 0)]
def zm_c75_7 : List (Nat × zm_I) := [(61, .aload_n 0, 0, 0, 0), (62, .getfield 102, 5, 10, 0), (65, .putfield 35, 5, 9, 0), (68, .aload_n 0, 0, 0, 0), (69, .getfield 95, 5, 8, 0), (72, .istore 5, 0, 0, 0)]
def zm_c75_8 : List (Nat × zm_I) := [(74, .iload 4, 0, 0, 0), (76, .ifCond .eq 75, 0, 0, 0), (79, .aload_n 0, 0, 0, 0), (80, .getfield 7, 5, 0, 0), (83, .iconst 0, 0, 0, 0), (84, .iaload, 0, 0, 0)]
def zm_c75_9 : List (Nat × zm_I) := [(85, .bipush 65, 0, 0, 0), (87, .isub, 0, 0, 0), (88, .istore 6, 0, 0, 0), (90, .aload_n 0, 0, 0, 0), (91, .getfield 19, 5, 3, 0), (94, .iload 6, 0, 0, 0)]
def zm_c75_10 : List (Nat × zm_I) := [(96, .aload_n 0, 0, 0, 0), (97, .iload_n 3, 0, 0, 0), (98, .invokevirtual 123, 0, 0, 0), (101, .iastore, 0, 0, 0), (102, .aload_n 0, 0, 0, 0), (103, .getfield 25, 5, 5, 0)]
def zm_c75_11 : List (Nat × zm_I) := [(106, .iload 6, 0, 0, 0), (108, .iload_n 3, 0, 0, 0), (109, .iconst 2, 0, 0, 0), (110, .isub, 0, 0, 0), (111, .iastore, 0, 0, 0), (112, .iconst 0, 0, 0, 0)]
def zm_c75_12 : List (Nat × zm_I) := [(113, .istore 7, 0, 0, 0), (115, .iload 7, 0, 0, 0), (117, .iconst 4, 0, 0, 0), (118, .if_icmp .ge 25, 0, 0, 0), (121, .aload_n 0, 0, 0, 0), (122, .getfield 22, 5, 4, 0)]
def zm_c75_13 : List (Nat × zm_I) := [(125, .iload 6, 0, 0, 0), (127, .iconst 4, 0, 0, 0), (128, .imul, 0, 0, 0), (129, .iload 7, 0, 0, 0), (131, .iadd, 0, 0, 0), (132, .aload_n 1, 0, 0, 0)]
def zm_c75_14 : List (Nat × zm_I) := [(133, .iload 7, 0, 0, 0), (135, .iaload, 0, 0, 0), (136, .iastore, 0, 0, 0), (137, .iinc 7 1, 0, 0, 0), (140, .goto (-25), 0, 0, 0), (143, .aload_n 0, 0, 0, 0)]
def zm_c75_15 : List (Nat × zm_I) := [(144, .getfield 31, 5, 7, 0), (147, .iload 6, 0, 0, 0), (149, .iconst 1, 0, 0, 0), (150, .bastore, 0, 0, 0), (151, .aload_n 0, 0, 0, 0), (152, .iconst 0, 0, 0, 0)]
def zm_c75_16 : List (Nat × zm_I) := [(153, .putfield 95, 5, 8, 0), (156, .aload_n 0, 0, 0, 0), (157, .iload 4, 0, 0, 0), (159, .invokevirtual 91, 0, 0, 0), (162, .ifCond .ne 8, 0, 0, 0), (165, .iload 5, 0, 0, 0)]
def zm_c75_17 : List (Nat × zm_I) := [(167, .ifCond .ne 7, 0, 0, 0), (170, .iconst 0, 0, 0, 0), (171, .goto 6, 0, 0, 0), (174, .iload_n 3, 0, 0, 0), (175, .iconst 2, 0, 0, 0), (176, .isub, 0, 0, 0)]
def zm_c75_18 : List (Nat × zm_I) := [(177, .ireturn, 0, 0, 0)]
def zm_g75 (pc : Nat) : Option zm_I := cond (Nat.blt pc 85) (cond (Nat.blt pc 27) (cond (Nat.blt pc 13) (cond (Nat.blt pc 7) (zm_lk zm_c75_0 pc) (zm_lk zm_c75_1 pc)) (cond (Nat.blt pc 19) (zm_lk zm_c75_2 pc) (zm_lk zm_c75_3 pc))) (cond (Nat.blt pc 49) (cond (Nat.blt pc 37) (zm_lk zm_c75_4 pc) (zm_lk zm_c75_5 pc)) (cond (Nat.blt pc 61) (zm_lk zm_c75_6 pc) (cond (Nat.blt pc 74) (zm_lk zm_c75_7 pc) (zm_lk zm_c75_8 pc))))) (cond (Nat.blt pc 133) (cond (Nat.blt pc 106) (cond (Nat.blt pc 96) (zm_lk zm_c75_9 pc) (zm_lk zm_c75_10 pc)) (cond (Nat.blt pc 113) (zm_lk zm_c75_11 pc) (cond (Nat.blt pc 125) (zm_lk zm_c75_12 pc) (zm_lk zm_c75_13 pc)))) (cond (Nat.blt pc 153) (cond (Nat.blt pc 144) (zm_lk zm_c75_14 pc) (zm_lk zm_c75_15 pc)) (cond (Nat.blt pc 167) (zm_lk zm_c75_16 pc) (cond (Nat.blt pc 177) (zm_lk zm_c75_17 pc) (zm_lk zm_c75_18 pc)))))
/-- NeedMachineModel.heading([I)I -/
def zm_c76_0 : List (Nat × zm_I) := [(0, .iconst 0, 0, 0, 0), (1, .istore_n 2, 0, 0, 0), (2, .iconst 0, 0, 0, 0), (3, .istore_n 3, 0, 0, 0), (4, .aload_n 0, 0, 0, 0), (5, .invokevirtual 105, 0, 0, 0)]
def zm_c76_1 : List (Nat × zm_I) := [(8, .bipush 65, 0, 0, 0), (10, .bipush 70, 0, 0, 0), (12, .invokestatic 87, 0, 0, 0), (15, .ifCond .ne 5, 0, 0, 0), (18, .iconst (-1), 0, 0, 0), (19, .ireturn, 0, 0, 0)]
def zm_c76_2 : List (Nat × zm_I) := [(20, .aload_n 0, 0, 0, 0), (21, .dup, 0, 0, 0), (22, .getfield 102, 5, 10, 0), (25, .iconst 1, 0, 0, 0), (26, .iadd, 0, 0, 0), (27, .putfield 102, 5, 10, 0)]
def zm_c76_3 : List (Nat × zm_I) := [(30, .iload_n 3, 0, 0, 0), (31, .iconst 4, 0, 0, 0), (32, .if_icmp .ge 66, 0, 0, 0), (35, .aload_n 0, 0, 0, 0), (36, .invokevirtual 105, 0, 0, 0), (39, .bipush 97, 0, 0, 0)]
def zm_c76_4 : List (Nat × zm_I) := [(41, .bipush 102, 0, 0, 0), (43, .invokestatic 87, 0, 0, 0), (46, .ifCond .eq 52, 0, 0, 0), (49, .iload_n 2, 0, 0, 0), (50, .aload_n 0, 0, 0, 0), (51, .invokevirtual 105, 0, 0, 0)]
def zm_c76_5 : List (Nat × zm_I) := [(54, .bipush 97, 0, 0, 0), (56, .isub, 0, 0, 0), (57, .ishr, 0, 0, 0), (58, .iconst 1, 0, 0, 0), (59, .iand, 0, 0, 0), (60, .ifCond .ne 38, 0, 0, 0)]
def zm_c76_6 : List (Nat × zm_I) := [(63, .iload_n 2, 0, 0, 0), (64, .iconst 1, 0, 0, 0), (65, .aload_n 0, 0, 0, 0), (66, .invokevirtual 105, 0, 0, 0), (69, .bipush 97, 0, 0, 0), (71, .isub, 0, 0, 0)]
def zm_c76_7 : List (Nat × zm_I) := [(72, .ishl, 0, 0, 0), (73, .ior, 0, 0, 0), (74, .istore_n 2, 0, 0, 0), (75, .aload_n 1, 0, 0, 0), (76, .iload_n 3, 0, 0, 0), (77, .aload_n 0, 0, 0, 0)]
def zm_c76_8 : List (Nat × zm_I) := [(78, .invokevirtual 105, 0, 0, 0), (81, .iastore, 0, 0, 0), (82, .iinc 3 1, 0, 0, 0), (85, .aload_n 0, 0, 0, 0), (86, .dup, 0, 0, 0), (87, .getfield 102, 5, 10, 0)]
def zm_c76_9 : List (Nat × zm_I) := [(90, .iconst 1, 0, 0, 0), (91, .iadd, 0, 0, 0), (92, .putfield 102, 5, 10, 0), (95, .goto (-65), 0, 0, 0), (98, .aload_n 0, 0, 0, 0), (99, .invokevirtual 105, 0, 0, 0)]
def zm_c76_10 : List (Nat × zm_I) := [(102, .bipush 61, 0, 0, 0), (104, .if_icmp .eq 5, 0, 0, 0), (107, .iconst (-1), 0, 0, 0), (108, .ireturn, 0, 0, 0), (109, .aload_n 0, 0, 0, 0), (110, .dup, 0, 0, 0)]
def zm_c76_11 : List (Nat × zm_I) := [(111, .getfield 102, 5, 10, 0), (114, .iconst 1, 0, 0, 0), (115, .iadd, 0, 0, 0), (116, .putfield 102, 5, 10, 0), (119, .iload_n 2, 0, 0, 0), (120, .ireturn, 0, 0, 0)]
def zm_g76 (pc : Nat) : Option zm_I := cond (Nat.blt pc 63) (cond (Nat.blt pc 30) (cond (Nat.blt pc 8) (zm_lk zm_c76_0 pc) (cond (Nat.blt pc 20) (zm_lk zm_c76_1 pc) (zm_lk zm_c76_2 pc))) (cond (Nat.blt pc 41) (zm_lk zm_c76_3 pc) (cond (Nat.blt pc 54) (zm_lk zm_c76_4 pc) (zm_lk zm_c76_5 pc)))) (cond (Nat.blt pc 90) (cond (Nat.blt pc 72) (zm_lk zm_c76_6 pc) (cond (Nat.blt pc 78) (zm_lk zm_c76_7 pc) (zm_lk zm_c76_8 pc))) (cond (Nat.blt pc 102) (zm_lk zm_c76_9 pc) (cond (Nat.blt pc 111) (zm_lk zm_c76_10 pc) (zm_lk zm_c76_11 pc))))
/-- NeedMachineModel.look()I -/
def zm_c77_0 : List (Nat × zm_I) := [(0, .aload_n 0, 0, 0, 0), (1, .getfield 102, 5, 10, 0), (4, .aload_n 0, 0, 0, 0), (5, .getfield 95, 5, 8, 0), (8, .if_icmp .ge 15, 0, 0, 0), (11, .aload_n 0, 0, 0, 0)]
def zm_c77_1 : List (Nat × zm_I) := [(12, .getfield 7, 5, 0, 0), (15, .aload_n 0, 0, 0, 0), (16, .getfield 102, 5, 10, 0), (19, .iaload, 0, 0, 0), (20, .goto 4, 0, 0, 0), (23, .iconst 0, 0, 0, 0)]
def zm_c77_2 : List (Nat × zm_I) := [(24, .ireturn, 0, 0, 0)]
def zm_g77 (pc : Nat) : Option zm_I := cond (Nat.blt pc 12) (zm_lk zm_c77_0 pc) (cond (Nat.blt pc 24) (zm_lk zm_c77_1 pc) (zm_lk zm_c77_2 pc))
/-- NeedMachineModel.read(I)Z -/
def zm_c78_0 : List (Nat × zm_I) := [(0, .iconst 1, 0, 0, 0), (1, .istore_n 2, 0, 0, 0), (2, .aload_n 0, 0, 0, 0), (3, .getfield 28, 5, 6, 0), (6, .iconst 1, 0, 0, 0), (7, .iconst 1, 0, 0, 0)]
def zm_c78_1 : List (Nat × zm_I) := [(8, .iastore, 0, 0, 0), (9, .iload_n 2, 0, 0, 0), (10, .ifCond .le 112, 0, 0, 0), (13, .aload_n 0, 0, 0, 0), (14, .invokevirtual 105, 0, 0, 0), (17, .istore_n 3, 0, 0, 0)]
def zm_c78_2 : List (Nat × zm_I) := [(18, .iload_n 3, 0, 0, 0), (19, .invokestatic 109, 0, 0, 0), (22, .istore 4, 0, 0, 0), (24, .iload 4, 0, 0, 0), (26, .ifCond .lt 36, 0, 0, 0), (29, .iload 4, 0, 0, 0)]
def zm_c78_3 : List (Nat × zm_I) := [(31, .ifCond .le 9, 0, 0, 0), (34, .iload_n 2, 0, 0, 0), (35, .bipush 12, 0, 0, 0), (37, .if_icmp .eq 25, 0, 0, 0), (40, .iload_n 3, 0, 0, 0), (41, .bipush 97, 0, 0, 0)]
def zm_c78_4 : List (Nat × zm_I) := [(43, .bipush 102, 0, 0, 0), (45, .invokestatic 87, 0, 0, 0), (48, .ifCond .eq 16, 0, 0, 0), (51, .iload_n 1, 0, 0, 0), (52, .iload_n 3, 0, 0, 0), (53, .bipush 97, 0, 0, 0)]
def zm_c78_5 : List (Nat × zm_I) := [(55, .isub, 0, 0, 0), (56, .ishr, 0, 0, 0), (57, .iconst 1, 0, 0, 0), (58, .iand, 0, 0, 0), (59, .ifCond .ne 5, 0, 0, 0), (62, .iconst 0, 0, 0, 0)]
def zm_c78_6 : List (Nat × zm_I) := [(63, .ireturn, 0, 0, 0), (64, .aload_n 0, 0, 0, 0), (65, .dup, 0, 0, 0), (66, .getfield 102, 5, 10, 0), (69, .iconst 1, 0, 0, 0), (70, .iadd, 0, 0, 0)]
def zm_c78_7 : List (Nat × zm_I) := [(71, .putfield 102, 5, 10, 0), (74, .aload_n 0, 0, 0, 0), (75, .getfield 28, 5, 6, 0), (78, .iload_n 2, 0, 0, 0), (79, .dup2, 0, 0, 0), (80, .iaload, 0, 0, 0)]
def zm_c78_8 : List (Nat × zm_I) := [(81, .iconst 1, 0, 0, 0), (82, .isub, 0, 0, 0), (83, .iastore, 0, 0, 0), (84, .iload 4, 0, 0, 0), (86, .ifCond .le 14, 0, 0, 0), (89, .iinc 2 1, 0, 0, 0)]
def zm_c78_9 : List (Nat × zm_I) := [(92, .aload_n 0, 0, 0, 0), (93, .getfield 28, 5, 6, 0), (96, .iload_n 2, 0, 0, 0), (97, .iload 4, 0, 0, 0), (99, .iastore, 0, 0, 0), (100, .iload_n 2, 0, 0, 0)]
def zm_c78_10 : List (Nat × zm_I) := [(101, .ifCond .le 18, 0, 0, 0), (104, .aload_n 0, 0, 0, 0), (105, .getfield 28, 5, 6, 0), (108, .iload_n 2, 0, 0, 0), (109, .iaload, 0, 0, 0), (110, .ifCond .ne 9, 0, 0, 0)]
def zm_c78_11 : List (Nat × zm_I) := [(113, .iinc 2 (-1), 0, 0, 0), (116, .goto (-16), 0, 0, 0), (119, .goto (-110), 0, 0, 0), (122, .aload_n 0, 0, 0, 0), (123, .getfield 102, 5, 10, 0), (126, .aload_n 0, 0, 0, 0)]
def zm_c78_12 : List (Nat × zm_I) := [(127, .getfield 95, 5, 8, 0), (130, .if_icmp .ne 7, 0, 0, 0), (133, .iconst 1, 0, 0, 0), (134, .goto 4, 0, 0, 0), (137, .iconst 0, 0, 0, 0), (138, .ireturn, 0, 0, 0)]
def zm_g78 (pc : Nat) : Option zm_I := cond (Nat.blt pc 63) (cond (Nat.blt pc 31) (cond (Nat.blt pc 8) (zm_lk zm_c78_0 pc) (cond (Nat.blt pc 18) (zm_lk zm_c78_1 pc) (zm_lk zm_c78_2 pc))) (cond (Nat.blt pc 43) (zm_lk zm_c78_3 pc) (cond (Nat.blt pc 55) (zm_lk zm_c78_4 pc) (zm_lk zm_c78_5 pc)))) (cond (Nat.blt pc 92) (cond (Nat.blt pc 71) (zm_lk zm_c78_6 pc) (cond (Nat.blt pc 81) (zm_lk zm_c78_7 pc) (zm_lk zm_c78_8 pc))) (cond (Nat.blt pc 113) (cond (Nat.blt pc 101) (zm_lk zm_c78_9 pc) (zm_lk zm_c78_10 pc)) (cond (Nat.blt pc 127) (zm_lk zm_c78_11 pc) (zm_lk zm_c78_12 pc))))
/-- NeedMachineModel.parts(I)I -/
def zm_c79_0 : List (Nat × zm_I) := [(0, .iload_n 0, 0, 0, 0), (1, .bipush 48, 0, 0, 0), (3, .bipush 57, 0, 0, 0), (5, .invokestatic 87, 0, 0, 0), (8, .ifCond .ne 31, 0, 0, 0), (11, .iload_n 0, 0, 0, 0)]
def zm_c79_1 : List (Nat × zm_I) := [(12, .bipush 97, 0, 0, 0), (14, .bipush 102, 0, 0, 0), (16, .invokestatic 87, 0, 0, 0), (19, .ifCond .ne 20, 0, 0, 0), (22, .iload_n 0, 0, 0, 0), (23, .bipush 65, 0, 0, 0)]
def zm_c79_2 : List (Nat × zm_I) := [(25, .bipush 70, 0, 0, 0), (27, .invokestatic 87, 0, 0, 0), (30, .ifCond .ne 9, 0, 0, 0), (33, .iload_n 0, 0, 0, 0), (34, .bipush 110, 0, 0, 0), (36, .if_icmp .ne 5, 0, 0, 0)]
def zm_c79_3 : List (Nat × zm_I) := [(39, .iconst 0, 0, 0, 0), (40, .ireturn, 0, 0, 0), (41, .iload_n 0, 0, 0, 0), (42, .bipush 104, 0, 0, 0), (44, .if_icmp .eq 15, 0, 0, 0), (47, .iload_n 0, 0, 0, 0)]
def zm_c79_4 : List (Nat × zm_I) := [(48, .bipush 116, 0, 0, 0), (50, .if_icmp .eq 9, 0, 0, 0), (53, .iload_n 0, 0, 0, 0), (54, .bipush 122, 0, 0, 0), (56, .if_icmp .ne 5, 0, 0, 0), (59, .iconst 1, 0, 0, 0)]
def zm_c79_5 : List (Nat × zm_I) := [(60, .ireturn, 0, 0, 0), (61, .iload_n 0, 0, 0, 0), (62, .bipush 63, 0, 0, 0), (64, .if_icmp .ne 5, 0, 0, 0), (67, .iconst 3, 0, 0, 0), (68, .ireturn, 0, 0, 0)]
def zm_c79_6 : List (Nat × zm_I) := [(69, .iload_n 0, 0, 0, 0), (70, .bipush 46, 0, 0, 0), (72, .if_icmp .eq 51, 0, 0, 0), (75, .iload_n 0, 0, 0, 0), (76, .bipush 43, 0, 0, 0), (78, .if_icmp .eq 45, 0, 0, 0)]
def zm_c79_7 : List (Nat × zm_I) := [(81, .iload_n 0, 0, 0, 0), (82, .bipush 45, 0, 0, 0), (84, .if_icmp .eq 39, 0, 0, 0), (87, .iload_n 0, 0, 0, 0), (88, .bipush 42, 0, 0, 0), (90, .if_icmp .eq 33, 0, 0, 0)]
def zm_c79_8 : List (Nat × zm_I) := [(93, .iload_n 0, 0, 0, 0), (94, .bipush 47, 0, 0, 0), (96, .if_icmp .eq 27, 0, 0, 0), (99, .iload_n 0, 0, 0, 0), (100, .bipush 37, 0, 0, 0), (102, .if_icmp .eq 21, 0, 0, 0)]
def zm_c79_9 : List (Nat × zm_I) := [(105, .iload_n 0, 0, 0, 0), (106, .bipush 60, 0, 0, 0), (108, .if_icmp .eq 15, 0, 0, 0), (111, .iload_n 0, 0, 0, 0), (112, .bipush 61, 0, 0, 0), (114, .if_icmp .eq 9, 0, 0, 0)]
def zm_c79_10 : List (Nat × zm_I) := [(117, .iload_n 0, 0, 0, 0), (118, .bipush 58, 0, 0, 0), (120, .if_icmp .ne 7, 0, 0, 0), (123, .iconst 2, 0, 0, 0), (124, .goto 4, 0, 0, 0), (127, .iconst (-1), 0, 0, 0)]
def zm_c79_11 : List (Nat × zm_I) := [(128, .ireturn, 0, 0, 0)]
def zm_g79 (pc : Nat) : Option zm_I := cond (Nat.blt pc 69) (cond (Nat.blt pc 39) (cond (Nat.blt pc 12) (zm_lk zm_c79_0 pc) (cond (Nat.blt pc 25) (zm_lk zm_c79_1 pc) (zm_lk zm_c79_2 pc))) (cond (Nat.blt pc 48) (zm_lk zm_c79_3 pc) (cond (Nat.blt pc 60) (zm_lk zm_c79_4 pc) (zm_lk zm_c79_5 pc)))) (cond (Nat.blt pc 105) (cond (Nat.blt pc 81) (zm_lk zm_c79_6 pc) (cond (Nat.blt pc 93) (zm_lk zm_c79_7 pc) (zm_lk zm_c79_8 pc))) (cond (Nat.blt pc 117) (zm_lk zm_c79_9 pc) (cond (Nat.blt pc 128) (zm_lk zm_c79_10 pc) (zm_lk zm_c79_11 pc))))
/-- NeedMachineModel.store(I)I -/
def zm_c80_0 : List (Nat × zm_I) := [(0, .aload_n 0, 0, 0, 0), (1, .getfield 112, 5, 11, 0), (4, .istore_n 2, 0, 0, 0), (5, .iload_n 1, 0, 0, 0), (6, .istore_n 3, 0, 0, 0), (7, .iload_n 3, 0, 0, 0)]
def zm_c80_1 : List (Nat × zm_I) := [(8, .aload_n 0, 0, 0, 0), (9, .getfield 95, 5, 8, 0), (12, .if_icmp .ge 34, 0, 0, 0), (15, .aload_n 0, 0, 0, 0), (16, .getfield 13, 5, 1, 0), (19, .aload_n 0, 0, 0, 0)]
def zm_c80_2 : List (Nat × zm_I) := [(20, .getfield 112, 5, 11, 0), (23, .aload_n 0, 0, 0, 0), (24, .getfield 7, 5, 0, 0), (27, .iload_n 3, 0, 0, 0), (28, .iaload, 0, 0, 0), (29, .iastore, 0, 0, 0)]
def zm_c80_3 : List (Nat × zm_I) := [(30, .aload_n 0, 0, 0, 0), (31, .dup, 0, 0, 0), (32, .getfield 112, 5, 11, 0), (35, .iconst 1, 0, 0, 0), (36, .iadd, 0, 0, 0), (37, .putfield 112, 5, 11, 0)]
def zm_c80_4 : List (Nat × zm_I) := [(40, .iinc 3 1, 0, 0, 0), (43, .goto (-36), 0, 0, 0), (46, .iload_n 2, 0, 0, 0), (47, .ireturn, 0, 0, 0)]
def zm_g80 (pc : Nat) : Option zm_I := cond (Nat.blt pc 20) (cond (Nat.blt pc 8) (zm_lk zm_c80_0 pc) (zm_lk zm_c80_1 pc)) (cond (Nat.blt pc 30) (zm_lk zm_c80_2 pc) (cond (Nat.blt pc 40) (zm_lk zm_c80_3 pc) (zm_lk zm_c80_4 pc)))
/-- NeedMachineModel.ask()I -/
def zm_c81_0 : List (Nat × zm_I) := [(0, .aload_n 0, 0, 0, 0), (1, .iconst 0, 0, 0, 0), (2, .putfield 102, 5, 10, 0), (5, .aload_n 0, 0, 0, 0), (6, .iconst 0, 0, 0, 0), (7, .invokevirtual 119, 0, 0, 0)]
def zm_c81_1 : List (Nat × zm_I) := [(10, .istore_n 1, 0, 0, 0), (11, .iload_n 1, 0, 0, 0), (12, .ifCond .ne 11, 0, 0, 0), (15, .aload_n 0, 0, 0, 0), (16, .aload_n 0, 0, 0, 0), (17, .getfield 102, 5, 10, 0)]
def zm_c81_2 : List (Nat × zm_I) := [(20, .putfield 35, 5, 9, 0), (23, .aload_n 0, 0, 0, 0), (24, .iload_n 1, 0, 0, 0), (25, .invokevirtual 91, 0, 0, 0), (28, .ifCond .eq 10, 0, 0, 0), (31, .aload_n 0, 0, 0, 0)]
def zm_c81_3 : List (Nat × zm_I) := [(32, .iconst 0, 0, 0, 0), (33, .putfield 95, 5, 8, 0), (36, .iconst 0, 0, 0, 0), (37, .ireturn, 0, 0, 0), (38, .aload_n 0, 0, 0, 0), (39, .invokevirtual 229, 0, 0, 0)]
def zm_c81_4 : List (Nat × zm_I) := [(42, .aload_n 0, 0, 0, 0), (43, .iconst 0, 0, 0, 0), (44, .invokevirtual 123, 0, 0, 0), (47, .istore_n 2, 0, 0, 0), (48, .aload_n 0, 0, 0, 0), (49, .iconst 0, 0, 0, 0)]
def zm_c81_5 : List (Nat × zm_I) := [(50, .putfield 95, 5, 8, 0), (53, .aload_n 0, 0, 0, 0), (54, .iconst 0, 0, 0, 0), (55, .putfield 175, 5, 33, 0), (58, .aload_n 0, 0, 0, 0), (59, .iconst 0, 0, 0, 0)]
def zm_c81_6 : List (Nat × zm_I) := [(60, .putfield 141, 5, 32, 0), (63, .aload_n 0, 0, 0, 0), (64, .iload_n 2, 0, 0, 0), (65, .iconst 0, 0, 0, 0), (66, .invokevirtual 232, 0, 0, 0), (69, .aload_n 0, 0, 0, 0)]
def zm_c81_7 : List (Nat × zm_I) := [(70, .invokevirtual 235, 0, 0, 0), (73, .ireturn, 0, 0, 0)]
def zm_g81 (pc : Nat) : Option zm_I := cond (Nat.blt pc 42) (cond (Nat.blt pc 20) (cond (Nat.blt pc 10) (zm_lk zm_c81_0 pc) (zm_lk zm_c81_1 pc)) (cond (Nat.blt pc 32) (zm_lk zm_c81_2 pc) (zm_lk zm_c81_3 pc))) (cond (Nat.blt pc 60) (cond (Nat.blt pc 50) (zm_lk zm_c81_4 pc) (zm_lk zm_c81_5 pc)) (cond (Nat.blt pc 70) (zm_lk zm_c81_6 pc) (zm_lk zm_c81_7 pc)))
/-- NeedMachineModel.sweep()V -/
def zm_c82_0 : List (Nat × zm_I) := [(0, .iconst 0, 0, 0, 0), (1, .istore_n 1, 0, 0, 0), (2, .iconst 0, 0, 0, 0), (3, .istore_n 2, 0, 0, 0), (4, .iload_n 2, 0, 0, 0), (5, .bipush 6, 0, 0, 0)]
def zm_c82_1 : List (Nat × zm_I) := [(7, .if_icmp .ge 79, 0, 0, 0), (10, .aload_n 0, 0, 0, 0), (11, .getfield 31, 5, 7, 0), (14, .iload_n 2, 0, 0, 0), (15, .baload, 0, 0, 0), (16, .ifCond .ne 6, 0, 0, 0)]
def zm_c82_2 : List (Nat × zm_I) := [(19, .goto 61, 0, 0, 0), (22, .aload_n 0, 0, 0, 0), (23, .aload_n 0, 0, 0, 0), (24, .getfield 19, 5, 3, 0), (27, .iload_n 2, 0, 0, 0), (28, .iaload, 0, 0, 0)]
def zm_c82_3 : List (Nat × zm_I) := [(29, .invokevirtual 126, 0, 0, 0), (32, .istore_n 3, 0, 0, 0), (33, .iload_n 1, 0, 0, 0), (34, .istore 4, 0, 0, 0), (36, .aload_n 0, 0, 0, 0), (37, .getfield 19, 5, 3, 0)]
def zm_c82_4 : List (Nat × zm_I) := [(40, .iload_n 2, 0, 0, 0), (41, .iaload, 0, 0, 0), (42, .istore 5, 0, 0, 0), (44, .iload 5, 0, 0, 0), (46, .iload_n 3, 0, 0, 0), (47, .if_icmp .ge 25, 0, 0, 0)]
def zm_c82_5 : List (Nat × zm_I) := [(50, .aload_n 0, 0, 0, 0), (51, .getfield 16, 5, 2, 0), (54, .iload_n 1, 0, 0, 0), (55, .aload_n 0, 0, 0, 0), (56, .getfield 13, 5, 1, 0), (59, .iload 5, 0, 0, 0)]
def zm_c82_6 : List (Nat × zm_I) := [(61, .iaload, 0, 0, 0), (62, .iastore, 0, 0, 0), (63, .iinc 1 1, 0, 0, 0), (66, .iinc 5 1, 0, 0, 0), (69, .goto (-25), 0, 0, 0), (72, .aload_n 0, 0, 0, 0)]
def zm_c82_7 : List (Nat × zm_I) := [(73, .getfield 19, 5, 3, 0), (76, .iload_n 2, 0, 0, 0), (77, .iload 4, 0, 0, 0), (79, .iastore, 0, 0, 0), (80, .iinc 2 1, 0, 0, 0), (83, .goto (-79), 0, 0, 0)]
def zm_c82_8 : List (Nat × zm_I) := [(86, .iconst 0, 0, 0, 0), (87, .istore_n 2, 0, 0, 0), (88, .iload_n 2, 0, 0, 0), (89, .iload_n 1, 0, 0, 0), (90, .if_icmp .ge 21, 0, 0, 0), (93, .aload_n 0, 0, 0, 0)]
def zm_c82_9 : List (Nat × zm_I) := [(94, .getfield 13, 5, 1, 0), (97, .iload_n 2, 0, 0, 0), (98, .aload_n 0, 0, 0, 0), (99, .getfield 16, 5, 2, 0), (102, .iload_n 2, 0, 0, 0), (103, .iaload, 0, 0, 0)]
def zm_c82_10 : List (Nat × zm_I) := [(104, .iastore, 0, 0, 0), (105, .iinc 2 1, 0, 0, 0), (108, .goto (-20), 0, 0, 0), (111, .aload_n 0, 0, 0, 0), (112, .iload_n 1, 0, 0, 0), (113, .putfield 112, 5, 11, 0)]
def zm_c82_11 : List (Nat × zm_I) := [(116, .aload_n 0, 0, 0, 0), (117, .aload_n 0, 0, 0, 0), (118, .aload_n 0, 0, 0, 0), (119, .iconst 0, 0, 0, 0), (120, .dup_x1, 0, 0, 0), (121, .putfield 129, 5, 25, 0)]
def zm_c82_12 : List (Nat × zm_I) := [(124, .dup_x1, 0, 0, 0), (125, .putfield 132, 5, 24, 0), (128, .putfield 135, 5, 23, 0), (131, .return_, 0, 0, 0)]
def zm_g82 (pc : Nat) : Option zm_I := cond (Nat.blt pc 61) (cond (Nat.blt pc 29) (cond (Nat.blt pc 7) (zm_lk zm_c82_0 pc) (cond (Nat.blt pc 19) (zm_lk zm_c82_1 pc) (zm_lk zm_c82_2 pc))) (cond (Nat.blt pc 40) (zm_lk zm_c82_3 pc) (cond (Nat.blt pc 50) (zm_lk zm_c82_4 pc) (zm_lk zm_c82_5 pc)))) (cond (Nat.blt pc 94) (cond (Nat.blt pc 73) (zm_lk zm_c82_6 pc) (cond (Nat.blt pc 86) (zm_lk zm_c82_7 pc) (zm_lk zm_c82_8 pc))) (cond (Nat.blt pc 116) (cond (Nat.blt pc 104) (zm_lk zm_c82_9 pc) (zm_lk zm_c82_10 pc)) (cond (Nat.blt pc 124) (zm_lk zm_c82_11 pc) (zm_lk zm_c82_12 pc))))
/-- NeedMachineModel.skip(I)I -/
def zm_c83_0 : List (Nat × zm_I) := [(0, .iload_n 1, 0, 0, 0), (1, .istore_n 2, 0, 0, 0), (2, .iconst 1, 0, 0, 0), (3, .istore_n 3, 0, 0, 0), (4, .iload_n 3, 0, 0, 0), (5, .ifCond .le 23, 0, 0, 0)]
def zm_c83_1 : List (Nat × zm_I) := [(8, .iload_n 3, 0, 0, 0), (9, .aload_n 0, 0, 0, 0), (10, .getfield 13, 5, 1, 0), (13, .iload_n 2, 0, 0, 0), (14, .iaload, 0, 0, 0), (15, .invokestatic 109, 0, 0, 0)]
def zm_c83_2 : List (Nat × zm_I) := [(18, .iconst 1, 0, 0, 0), (19, .isub, 0, 0, 0), (20, .iadd, 0, 0, 0), (21, .istore_n 3, 0, 0, 0), (22, .iinc 2 1, 0, 0, 0), (25, .goto (-21), 0, 0, 0)]
def zm_c83_3 : List (Nat × zm_I) := [(28, .iload_n 2, 0, 0, 0), (29, .ireturn, 0, 0, 0)]
def zm_g83 (pc : Nat) : Option zm_I := cond (Nat.blt pc 18) (cond (Nat.blt pc 8) (zm_lk zm_c83_0 pc) (zm_lk zm_c83_1 pc)) (cond (Nat.blt pc 28) (zm_lk zm_c83_2 pc) (zm_lk zm_c83_3 pc))
/-- NeedMachineModel.workOut(II)V -/
def zm_c84_0 : List (Nat × zm_I) := [(0, .aload_n 0, 0, 0, 0), (1, .iconst 0, 0, 0, 0), (2, .putfield 138, 5, 31, 0), (5, .aload_n 0, 0, 0, 0), (6, .iload_n 1, 0, 0, 0), (7, .iload_n 2, 0, 0, 0)]
def zm_c84_1 : List (Nat × zm_I) := [(8, .invokevirtual 171, 0, 0, 0), (11, .aload_n 0, 0, 0, 0), (12, .getfield 138, 5, 31, 0), (15, .ifCond .le 17, 0, 0, 0), (18, .aload_n 0, 0, 0, 0), (19, .getfield 84, 5, 12, 0)]
def zm_c84_2 : List (Nat × zm_I) := [(22, .ifCond .ne 10, 0, 0, 0), (25, .aload_n 0, 0, 0, 0), (26, .invokevirtual 213, 0, 0, 0), (29, .goto (-18), 0, 0, 0), (32, .return_, 0, 0, 0)]
def zm_g84 (pc : Nat) : Option zm_I := cond (Nat.blt pc 8) (zm_lk zm_c84_0 pc) (cond (Nat.blt pc 22) (zm_lk zm_c84_1 pc) (zm_lk zm_c84_2 pc))
/-- NeedMachineModel.push(II)V -/
def zm_c85_0 : List (Nat × zm_I) := [(0, .aload_n 0, 0, 0, 0), (1, .getfield 138, 5, 31, 0), (4, .bipush 60, 0, 0, 0), (6, .if_icmp .ne 9, 0, 0, 0), (9, .aload_n 0, 0, 0, 0), (10, .iconst 4, 0, 0, 0)]
def zm_c85_1 : List (Nat × zm_I) := [(11, .putfield 84, 5, 12, 0), (14, .return_, 0, 0, 0), (15, .aload_n 0, 0, 0, 0), (16, .dup, 0, 0, 0), (17, .getfield 138, 5, 31, 0), (20, .iconst 1, 0, 0, 0)]
def zm_c85_2 : List (Nat × zm_I) := [(21, .iadd, 0, 0, 0), (22, .putfield 138, 5, 31, 0), (25, .aload_n 0, 0, 0, 0), (26, .getfield 138, 5, 31, 0), (29, .aload_n 0, 0, 0, 0), (30, .getfield 141, 5, 32, 0)]
def zm_c85_3 : List (Nat × zm_I) := [(33, .if_icmp .le 11, 0, 0, 0), (36, .aload_n 0, 0, 0, 0), (37, .aload_n 0, 0, 0, 0), (38, .getfield 138, 5, 31, 0), (41, .putfield 141, 5, 32, 0), (44, .aload_n 0, 0, 0, 0)]
def zm_c85_4 : List (Nat × zm_I) := [(45, .getfield 69, 5, 26, 0), (48, .aload_n 0, 0, 0, 0), (49, .getfield 138, 5, 31, 0), (52, .iload_n 1, 0, 0, 0), (53, .iastore, 0, 0, 0), (54, .aload_n 0, 0, 0, 0)]
def zm_c85_5 : List (Nat × zm_I) := [(55, .getfield 72, 5, 27, 0), (58, .aload_n 0, 0, 0, 0), (59, .getfield 138, 5, 31, 0), (62, .iload_n 2, 0, 0, 0), (63, .iastore, 0, 0, 0), (64, .aload_n 0, 0, 0, 0)]
def zm_c85_6 : List (Nat × zm_I) := [(65, .getfield 75, 5, 28, 0), (68, .aload_n 0, 0, 0, 0), (69, .getfield 138, 5, 31, 0), (72, .iconst 0, 0, 0, 0), (73, .iastore, 0, 0, 0), (74, .aload_n 0, 0, 0, 0)]
def zm_c85_7 : List (Nat × zm_I) := [(75, .getfield 81, 5, 30, 0), (78, .aload_n 0, 0, 0, 0), (79, .getfield 138, 5, 31, 0), (82, .iconst (-1), 0, 0, 0), (83, .iastore, 0, 0, 0), (84, .return_, 0, 0, 0)]
def zm_g85 (pc : Nat) : Option zm_I := cond (Nat.blt pc 45) (cond (Nat.blt pc 21) (cond (Nat.blt pc 11) (zm_lk zm_c85_0 pc) (zm_lk zm_c85_1 pc)) (cond (Nat.blt pc 33) (zm_lk zm_c85_2 pc) (zm_lk zm_c85_3 pc))) (cond (Nat.blt pc 65) (cond (Nat.blt pc 55) (zm_lk zm_c85_4 pc) (zm_lk zm_c85_5 pc)) (cond (Nat.blt pc 75) (zm_lk zm_c85_6 pc) (zm_lk zm_c85_7 pc)))
/-- NeedMachineModel.step()V -/
def zm_c86_0 : List (Nat × zm_I) := [(0, .aload_n 0, 0, 0, 0), (1, .getfield 138, 5, 31, 0), (4, .istore_n 1, 0, 0, 0), (5, .aload_n 0, 0, 0, 0), (6, .getfield 69, 5, 26, 0), (9, .iload_n 1, 0, 0, 0)]
def zm_c86_1 : List (Nat × zm_I) := [(10, .iaload, 0, 0, 0), (11, .istore_n 2, 0, 0, 0), (12, .aload_n 0, 0, 0, 0), (13, .getfield 13, 5, 1, 0), (16, .iload_n 2, 0, 0, 0), (17, .iaload, 0, 0, 0)]
def zm_c86_2 : List (Nat × zm_I) := [(18, .istore_n 3, 0, 0, 0), (19, .aload_n 0, 0, 0, 0), (20, .getfield 75, 5, 28, 0), (23, .iload_n 1, 0, 0, 0), (24, .iaload, 0, 0, 0), (25, .iconst 3, 0, 0, 0)]
def zm_c86_3 : List (Nat × zm_I) := [(26, .if_icmp .ne 10, 0, 0, 0), (29, .aload_n 0, 0, 0, 0), (30, .invokevirtual 204, 0, 0, 0), (33, .goto 203, 0, 0, 0), (36, .aload_n 0, 0, 0, 0), (37, .getfield 75, 5, 28, 0)]
def zm_c86_4 : List (Nat × zm_I) := [(40, .iload_n 1, 0, 0, 0), (41, .iaload, 0, 0, 0), (42, .iconst 4, 0, 0, 0), (43, .if_icmp .ne 16, 0, 0, 0), (46, .aload_n 0, 0, 0, 0), (47, .dup, 0, 0, 0)]
def zm_c86_5 : List (Nat × zm_I) := [(48, .getfield 138, 5, 31, 0), (51, .iconst 1, 0, 0, 0), (52, .isub, 0, 0, 0), (53, .putfield 138, 5, 31, 0), (56, .goto 180, 0, 0, 0), (59, .aload_n 0, 0, 0, 0)]
def zm_c86_6 : List (Nat × zm_I) := [(60, .getfield 75, 5, 28, 0), (63, .iload_n 1, 0, 0, 0), (64, .iaload, 0, 0, 0), (65, .ifCond .le 12, 0, 0, 0), (68, .aload_n 0, 0, 0, 0), (69, .iload_n 1, 0, 0, 0)]
def zm_c86_7 : List (Nat × zm_I) := [(70, .iload_n 3, 0, 0, 0), (71, .invokevirtual 207, 0, 0, 0), (74, .goto 162, 0, 0, 0), (77, .iload_n 3, 0, 0, 0), (78, .bipush 48, 0, 0, 0), (80, .bipush 57, 0, 0, 0)]
def zm_c86_8 : List (Nat × zm_I) := [(82, .invokestatic 87, 0, 0, 0), (85, .ifCond .eq 16, 0, 0, 0), (88, .aload_n 0, 0, 0, 0), (89, .iconst 0, 0, 0, 0), (90, .iload_n 3, 0, 0, 0), (91, .bipush 48, 0, 0, 0)]
def zm_c86_9 : List (Nat × zm_I) := [(93, .isub, 0, 0, 0), (94, .iconst 0, 0, 0, 0), (95, .invokevirtual 157, 0, 0, 0), (98, .goto 138, 0, 0, 0), (101, .iload_n 3, 0, 0, 0), (102, .bipush 110, 0, 0, 0)]
def zm_c86_10 : List (Nat × zm_I) := [(104, .if_icmp .ne 13, 0, 0, 0), (107, .aload_n 0, 0, 0, 0), (108, .iconst 1, 0, 0, 0), (109, .iconst 0, 0, 0, 0), (110, .iconst 0, 0, 0, 0), (111, .invokevirtual 157, 0, 0, 0)]
def zm_c86_11 : List (Nat × zm_I) := [(114, .goto 122, 0, 0, 0), (117, .iload_n 3, 0, 0, 0), (118, .bipush 97, 0, 0, 0), (120, .bipush 102, 0, 0, 0), (122, .invokestatic 87, 0, 0, 0), (125, .ifCond .eq 21, 0, 0, 0)]
def zm_c86_12 : List (Nat × zm_I) := [(128, .aload_n 0, 0, 0, 0), (129, .aload_n 0, 0, 0, 0), (130, .iload_n 3, 0, 0, 0), (131, .aload_n 0, 0, 0, 0), (132, .getfield 72, 5, 27, 0), (135, .iload_n 1, 0, 0, 0)]
def zm_c86_13 : List (Nat × zm_I) := [(136, .iaload, 0, 0, 0), (137, .invokevirtual 153, 0, 0, 0), (140, .invokevirtual 193, 0, 0, 0), (143, .goto 93, 0, 0, 0), (146, .iload_n 3, 0, 0, 0), (147, .bipush 65, 0, 0, 0)]
def zm_c86_14 : List (Nat × zm_I) := [(149, .bipush 70, 0, 0, 0), (151, .invokestatic 87, 0, 0, 0), (154, .ifCond .eq 14, 0, 0, 0), (157, .aload_n 0, 0, 0, 0), (158, .iload_n 3, 0, 0, 0), (159, .bipush 65, 0, 0, 0)]
def zm_c86_15 : List (Nat × zm_I) := [(161, .isub, 0, 0, 0), (162, .invokevirtual 210, 0, 0, 0), (165, .goto 71, 0, 0, 0), (168, .iload_n 3, 0, 0, 0), (169, .bipush 58, 0, 0, 0), (171, .if_icmp .ne 45, 0, 0, 0)]
def zm_c86_16 : List (Nat × zm_I) := [(174, .aload_n 0, 0, 0, 0), (175, .iload_n 2, 0, 0, 0), (176, .iconst 1, 0, 0, 0), (177, .iadd, 0, 0, 0), (178, .aload_n 0, 0, 0, 0), (179, .getfield 72, 5, 27, 0)]
def zm_c86_17 : List (Nat × zm_I) := [(182, .iload_n 1, 0, 0, 0), (183, .iaload, 0, 0, 0), (184, .invokevirtual 181, 0, 0, 0), (187, .istore 4, 0, 0, 0), (189, .aload_n 0, 0, 0, 0), (190, .iconst 2, 0, 0, 0)]
def zm_c86_18 : List (Nat × zm_I) := [(191, .iload 4, 0, 0, 0), (193, .aload_n 0, 0, 0, 0), (194, .aload_n 0, 0, 0, 0), (195, .iload_n 2, 0, 0, 0), (196, .iconst 1, 0, 0, 0), (197, .iadd, 0, 0, 0)]
def zm_c86_19 : List (Nat × zm_I) := [(198, .invokevirtual 126, 0, 0, 0), (201, .aload_n 0, 0, 0, 0), (202, .getfield 72, 5, 27, 0), (205, .iload_n 1, 0, 0, 0), (206, .iaload, 0, 0, 0), (207, .invokevirtual 181, 0, 0, 0)]
def zm_c86_20 : List (Nat × zm_I) := [(210, .invokevirtual 157, 0, 0, 0), (213, .goto 23, 0, 0, 0), (216, .aload_n 0, 0, 0, 0), (217, .getfield 75, 5, 28, 0), (220, .iload_n 1, 0, 0, 0), (221, .iconst 1, 0, 0, 0)]
def zm_c86_21 : List (Nat × zm_I) := [(222, .iastore, 0, 0, 0), (223, .aload_n 0, 0, 0, 0), (224, .iload_n 2, 0, 0, 0), (225, .iconst 1, 0, 0, 0), (226, .iadd, 0, 0, 0), (227, .aload_n 0, 0, 0, 0)]
def zm_c86_22 : List (Nat × zm_I) := [(228, .getfield 72, 5, 27, 0), (231, .iload_n 1, 0, 0, 0), (232, .iaload, 0, 0, 0), (233, .invokevirtual 171, 0, 0, 0), (236, .return_, 0, 0, 0)]
def zm_g86 (pc : Nat) : Option zm_I := cond (Nat.blt pc 114) (cond (Nat.blt pc 48) (cond (Nat.blt pc 18) (cond (Nat.blt pc 10) (zm_lk zm_c86_0 pc) (zm_lk zm_c86_1 pc)) (cond (Nat.blt pc 26) (zm_lk zm_c86_2 pc) (cond (Nat.blt pc 40) (zm_lk zm_c86_3 pc) (zm_lk zm_c86_4 pc)))) (cond (Nat.blt pc 82) (cond (Nat.blt pc 60) (zm_lk zm_c86_5 pc) (cond (Nat.blt pc 70) (zm_lk zm_c86_6 pc) (zm_lk zm_c86_7 pc))) (cond (Nat.blt pc 93) (zm_lk zm_c86_8 pc) (cond (Nat.blt pc 104) (zm_lk zm_c86_9 pc) (zm_lk zm_c86_10 pc))))) (cond (Nat.blt pc 182) (cond (Nat.blt pc 149) (cond (Nat.blt pc 128) (zm_lk zm_c86_11 pc) (cond (Nat.blt pc 136) (zm_lk zm_c86_12 pc) (zm_lk zm_c86_13 pc))) (cond (Nat.blt pc 161) (zm_lk zm_c86_14 pc) (cond (Nat.blt pc 174) (zm_lk zm_c86_15 pc) (zm_lk zm_c86_16 pc)))) (cond (Nat.blt pc 210) (cond (Nat.blt pc 191) (zm_lk zm_c86_17 pc) (cond (Nat.blt pc 198) (zm_lk zm_c86_18 pc) (zm_lk zm_c86_19 pc))) (cond (Nat.blt pc 222) (zm_lk zm_c86_20 pc) (cond (Nat.blt pc 228) (zm_lk zm_c86_21 pc) (zm_lk zm_c86_22 pc)))))
/-- NeedMachineModel.keepValue()V -/
def zm_c87_0 : List (Nat × zm_I) := [(0, .aload_n 0, 0, 0, 0), (1, .getfield 81, 5, 30, 0), (4, .aload_n 0, 0, 0, 0), (5, .getfield 138, 5, 31, 0), (8, .iaload, 0, 0, 0), (9, .istore_n 1, 0, 0, 0)]
def zm_c87_1 : List (Nat × zm_I) := [(10, .aload_n 0, 0, 0, 0), (11, .getfield 45, 5, 15, 0), (14, .iload_n 1, 0, 0, 0), (15, .iconst 2, 0, 0, 0), (16, .iastore, 0, 0, 0), (17, .aload_n 0, 0, 0, 0)]
def zm_c87_2 : List (Nat × zm_I) := [(18, .getfield 48, 5, 16, 0), (21, .iload_n 1, 0, 0, 0), (22, .aload_n 0, 0, 0, 0), (23, .getfield 144, 5, 37, 0), (26, .iastore, 0, 0, 0), (27, .aload_n 0, 0, 0, 0)]
def zm_c87_3 : List (Nat × zm_I) := [(28, .getfield 51, 5, 17, 0), (31, .iload_n 1, 0, 0, 0), (32, .aload_n 0, 0, 0, 0), (33, .getfield 147, 5, 38, 0), (36, .iastore, 0, 0, 0), (37, .aload_n 0, 0, 0, 0)]
def zm_c87_4 : List (Nat × zm_I) := [(38, .getfield 54, 5, 18, 0), (41, .iload_n 1, 0, 0, 0), (42, .aload_n 0, 0, 0, 0), (43, .getfield 150, 5, 39, 0), (46, .iastore, 0, 0, 0), (47, .aload_n 0, 0, 0, 0)]
def zm_c87_5 : List (Nat × zm_I) := [(48, .iload_n 1, 0, 0, 0), (49, .invokevirtual 164, 0, 0, 0), (52, .return_, 0, 0, 0)]
def zm_g87 (pc : Nat) : Option zm_I := cond (Nat.blt pc 28) (cond (Nat.blt pc 10) (zm_lk zm_c87_0 pc) (cond (Nat.blt pc 18) (zm_lk zm_c87_1 pc) (zm_lk zm_c87_2 pc))) (cond (Nat.blt pc 38) (zm_lk zm_c87_3 pc) (cond (Nat.blt pc 48) (zm_lk zm_c87_4 pc) (zm_lk zm_c87_5 pc)))
/-- NeedMachineModel.giveClosure(I)V -/
def zm_c88_0 : List (Nat × zm_I) := [(0, .aload_n 0, 0, 0, 0), (1, .aload_n 0, 0, 0, 0), (2, .getfield 48, 5, 16, 0), (5, .iload_n 1, 0, 0, 0), (6, .iaload, 0, 0, 0), (7, .aload_n 0, 0, 0, 0)]
def zm_c88_1 : List (Nat × zm_I) := [(8, .getfield 51, 5, 17, 0), (11, .iload_n 1, 0, 0, 0), (12, .iaload, 0, 0, 0), (13, .aload_n 0, 0, 0, 0), (14, .getfield 54, 5, 18, 0), (17, .iload_n 1, 0, 0, 0)]
def zm_c88_2 : List (Nat × zm_I) := [(18, .iaload, 0, 0, 0), (19, .invokevirtual 157, 0, 0, 0), (22, .return_, 0, 0, 0)]
def zm_g88 (pc : Nat) : Option zm_I := cond (Nat.blt pc 8) (zm_lk zm_c88_0 pc) (cond (Nat.blt pc 18) (zm_lk zm_c88_1 pc) (zm_lk zm_c88_2 pc))
/-- NeedMachineModel.give(III)V -/
def zm_c89_0 : List (Nat × zm_I) := [(0, .aload_n 0, 0, 0, 0), (1, .iload_n 1, 0, 0, 0), (2, .putfield 144, 5, 37, 0), (5, .aload_n 0, 0, 0, 0), (6, .iload_n 2, 0, 0, 0), (7, .putfield 147, 5, 38, 0)]
def zm_c89_1 : List (Nat × zm_I) := [(10, .aload_n 0, 0, 0, 0), (11, .iload_n 3, 0, 0, 0), (12, .putfield 150, 5, 39, 0), (15, .aload_n 0, 0, 0, 0), (16, .dup, 0, 0, 0), (17, .getfield 138, 5, 31, 0)]
def zm_c89_2 : List (Nat × zm_I) := [(20, .iconst 1, 0, 0, 0), (21, .isub, 0, 0, 0), (22, .putfield 138, 5, 31, 0), (25, .return_, 0, 0, 0)]
def zm_g89 (pc : Nat) : Option zm_I := cond (Nat.blt pc 10) (zm_lk zm_c89_0 pc) (cond (Nat.blt pc 20) (zm_lk zm_c89_1 pc) (zm_lk zm_c89_2 pc))
/-- NeedMachineModel.goOn(II)V -/
def zm_c90_0 : List (Nat × zm_I) := [(0, .aload_n 0, 0, 0, 0), (1, .getfield 69, 5, 26, 0), (4, .iload_n 1, 0, 0, 0), (5, .iaload, 0, 0, 0), (6, .istore_n 3, 0, 0, 0), (7, .iload_n 2, 0, 0, 0)]
def zm_c90_1 : List (Nat × zm_I) := [(8, .bipush 46, 0, 0, 0), (10, .if_icmp .ne 11, 0, 0, 0), (13, .aload_n 0, 0, 0, 0), (14, .iload_n 1, 0, 0, 0), (15, .invokevirtual 190, 0, 0, 0), (18, .goto 259, 0, 0, 0)]
def zm_c90_2 : List (Nat × zm_I) := [(21, .iload_n 2, 0, 0, 0), (22, .bipush 122, 0, 0, 0), (24, .if_icmp .ne 49, 0, 0, 0), (27, .aload_n 0, 0, 0, 0), (28, .getfield 144, 5, 37, 0), (31, .iconst 1, 0, 0, 0)]
def zm_c90_3 : List (Nat × zm_I) := [(32, .if_icmp .eq 19, 0, 0, 0), (35, .aload_n 0, 0, 0, 0), (36, .getfield 144, 5, 37, 0), (39, .iconst 2, 0, 0, 0), (40, .if_icmp .eq 11, 0, 0, 0), (43, .aload_n 0, 0, 0, 0)]
def zm_c90_4 : List (Nat × zm_I) := [(44, .iconst 5, 0, 0, 0), (45, .putfield 84, 5, 12, 0), (48, .goto 229, 0, 0, 0), (51, .aload_n 0, 0, 0, 0), (52, .iconst 0, 0, 0, 0), (53, .aload_n 0, 0, 0, 0)]
def zm_c90_5 : List (Nat × zm_I) := [(54, .getfield 144, 5, 37, 0), (57, .iconst 1, 0, 0, 0), (58, .if_icmp .ne 7, 0, 0, 0), (61, .iconst 1, 0, 0, 0), (62, .goto 4, 0, 0, 0), (65, .iconst 0, 0, 0, 0)]
def zm_c90_6 : List (Nat × zm_I) := [(66, .iconst 0, 0, 0, 0), (67, .invokevirtual 157, 0, 0, 0), (70, .goto 207, 0, 0, 0), (73, .iload_n 2, 0, 0, 0), (74, .bipush 104, 0, 0, 0), (76, .if_icmp .eq 9, 0, 0, 0)]
def zm_c90_7 : List (Nat × zm_I) := [(79, .iload_n 2, 0, 0, 0), (80, .bipush 116, 0, 0, 0), (82, .if_icmp .ne 55, 0, 0, 0), (85, .aload_n 0, 0, 0, 0), (86, .getfield 144, 5, 37, 0), (89, .iconst 2, 0, 0, 0)]
def zm_c90_8 : List (Nat × zm_I) := [(90, .if_icmp .eq 23, 0, 0, 0), (93, .aload_n 0, 0, 0, 0), (94, .aload_n 0, 0, 0, 0), (95, .getfield 144, 5, 37, 0), (98, .iconst 1, 0, 0, 0), (99, .if_icmp .ne 7, 0, 0, 0)]
def zm_c90_9 : List (Nat × zm_I) := [(102, .iconst 2, 0, 0, 0), (103, .goto 4, 0, 0, 0), (106, .iconst 5, 0, 0, 0), (107, .putfield 84, 5, 12, 0), (110, .goto 167, 0, 0, 0), (113, .aload_n 0, 0, 0, 0)]
def zm_c90_10 : List (Nat × zm_I) := [(114, .iload_n 2, 0, 0, 0), (115, .bipush 104, 0, 0, 0), (117, .if_icmp .ne 10, 0, 0, 0), (120, .aload_n 0, 0, 0, 0), (121, .getfield 147, 5, 38, 0), (124, .goto 7, 0, 0, 0)]
def zm_c90_11 : List (Nat × zm_I) := [(127, .aload_n 0, 0, 0, 0), (128, .getfield 150, 5, 39, 0), (131, .invokevirtual 193, 0, 0, 0), (134, .goto 143, 0, 0, 0), (137, .aload_n 0, 0, 0, 0), (138, .invokevirtual 196, 0, 0, 0)]
def zm_c90_12 : List (Nat × zm_I) := [(141, .ifCond .ne 4, 0, 0, 0), (144, .return_, 0, 0, 0), (145, .iload_n 2, 0, 0, 0), (146, .bipush 63, 0, 0, 0), (148, .if_icmp .ne 50, 0, 0, 0), (151, .aload_n 0, 0, 0, 0)]
def zm_c90_13 : List (Nat × zm_I) := [(152, .iload_n 3, 0, 0, 0), (153, .iconst 1, 0, 0, 0), (154, .iadd, 0, 0, 0), (155, .invokevirtual 126, 0, 0, 0), (158, .istore 4, 0, 0, 0), (160, .aload_n 0, 0, 0, 0)]
def zm_c90_14 : List (Nat × zm_I) := [(161, .getfield 75, 5, 28, 0), (164, .iload_n 1, 0, 0, 0), (165, .iconst 4, 0, 0, 0), (166, .iastore, 0, 0, 0), (167, .aload_n 0, 0, 0, 0), (168, .aload_n 0, 0, 0, 0)]
def zm_c90_15 : List (Nat × zm_I) := [(169, .getfield 147, 5, 38, 0), (172, .ifCond .eq 8, 0, 0, 0), (175, .iload 4, 0, 0, 0), (177, .goto 9, 0, 0, 0), (180, .aload_n 0, 0, 0, 0), (181, .iload 4, 0, 0, 0)]
def zm_c90_16 : List (Nat × zm_I) := [(183, .invokevirtual 126, 0, 0, 0), (186, .aload_n 0, 0, 0, 0), (187, .getfield 72, 5, 27, 0), (190, .iload_n 1, 0, 0, 0), (191, .iaload, 0, 0, 0), (192, .invokevirtual 171, 0, 0, 0)]
def zm_c90_17 : List (Nat × zm_I) := [(195, .goto 82, 0, 0, 0), (198, .aload_n 0, 0, 0, 0), (199, .getfield 75, 5, 28, 0), (202, .iload_n 1, 0, 0, 0), (203, .iaload, 0, 0, 0), (204, .iconst 1, 0, 0, 0)]
def zm_c90_18 : List (Nat × zm_I) := [(205, .if_icmp .ne 40, 0, 0, 0), (208, .aload_n 0, 0, 0, 0), (209, .getfield 78, 5, 29, 0), (212, .iload_n 1, 0, 0, 0), (213, .aload_n 0, 0, 0, 0), (214, .getfield 147, 5, 38, 0)]
def zm_c90_19 : List (Nat × zm_I) := [(217, .iastore, 0, 0, 0), (218, .aload_n 0, 0, 0, 0), (219, .getfield 75, 5, 28, 0), (222, .iload_n 1, 0, 0, 0), (223, .iconst 2, 0, 0, 0), (224, .iastore, 0, 0, 0)]
def zm_c90_20 : List (Nat × zm_I) := [(225, .aload_n 0, 0, 0, 0), (226, .aload_n 0, 0, 0, 0), (227, .iload_n 3, 0, 0, 0), (228, .iconst 1, 0, 0, 0), (229, .iadd, 0, 0, 0), (230, .invokevirtual 126, 0, 0, 0)]
def zm_c90_21 : List (Nat × zm_I) := [(233, .aload_n 0, 0, 0, 0), (234, .getfield 72, 5, 27, 0), (237, .iload_n 1, 0, 0, 0), (238, .iaload, 0, 0, 0), (239, .invokevirtual 171, 0, 0, 0), (242, .goto 35, 0, 0, 0)]
def zm_c90_22 : List (Nat × zm_I) := [(245, .aload_n 0, 0, 0, 0), (246, .iload_n 2, 0, 0, 0), (247, .aload_n 0, 0, 0, 0), (248, .getfield 78, 5, 29, 0), (251, .iload_n 1, 0, 0, 0), (252, .iaload, 0, 0, 0)]
def zm_c90_23 : List (Nat × zm_I) := [(253, .aload_n 0, 0, 0, 0), (254, .getfield 147, 5, 38, 0), (257, .invokevirtual 200, 0, 0, 0), (260, .istore 4, 0, 0, 0), (262, .aload_n 0, 0, 0, 0), (263, .getfield 84, 5, 12, 0)]
def zm_c90_24 : List (Nat × zm_I) := [(266, .ifCond .ne 11, 0, 0, 0), (269, .aload_n 0, 0, 0, 0), (270, .iconst 0, 0, 0, 0), (271, .iload 4, 0, 0, 0), (273, .iconst 0, 0, 0, 0), (274, .invokevirtual 157, 0, 0, 0)]
def zm_c90_25 : List (Nat × zm_I) := [(277, .return_, 0, 0, 0)]
def zm_g90 (pc : Nat) : Option zm_I := cond (Nat.blt pc 152) (cond (Nat.blt pc 66) (cond (Nat.blt pc 32) (cond (Nat.blt pc 8) (zm_lk zm_c90_0 pc) (cond (Nat.blt pc 21) (zm_lk zm_c90_1 pc) (zm_lk zm_c90_2 pc))) (cond (Nat.blt pc 44) (zm_lk zm_c90_3 pc) (cond (Nat.blt pc 54) (zm_lk zm_c90_4 pc) (zm_lk zm_c90_5 pc)))) (cond (Nat.blt pc 102) (cond (Nat.blt pc 79) (zm_lk zm_c90_6 pc) (cond (Nat.blt pc 90) (zm_lk zm_c90_7 pc) (zm_lk zm_c90_8 pc))) (cond (Nat.blt pc 127) (cond (Nat.blt pc 114) (zm_lk zm_c90_9 pc) (zm_lk zm_c90_10 pc)) (cond (Nat.blt pc 141) (zm_lk zm_c90_11 pc) (zm_lk zm_c90_12 pc))))) (cond (Nat.blt pc 217) (cond (Nat.blt pc 183) (cond (Nat.blt pc 161) (zm_lk zm_c90_13 pc) (cond (Nat.blt pc 169) (zm_lk zm_c90_14 pc) (zm_lk zm_c90_15 pc))) (cond (Nat.blt pc 195) (zm_lk zm_c90_16 pc) (cond (Nat.blt pc 205) (zm_lk zm_c90_17 pc) (zm_lk zm_c90_18 pc)))) (cond (Nat.blt pc 245) (cond (Nat.blt pc 225) (zm_lk zm_c90_19 pc) (cond (Nat.blt pc 233) (zm_lk zm_c90_20 pc) (zm_lk zm_c90_21 pc))) (cond (Nat.blt pc 266) (cond (Nat.blt pc 253) (zm_lk zm_c90_22 pc) (zm_lk zm_c90_23 pc)) (cond (Nat.blt pc 277) (zm_lk zm_c90_24 pc) (zm_lk zm_c90_25 pc)))))
/-- NeedMachineModel.apply(I)V -/
def zm_c91_0 : List (Nat × zm_I) := [(0, .aload_n 0, 0, 0, 0), (1, .getfield 144, 5, 37, 0), (4, .iconst 3, 0, 0, 0), (5, .if_icmp .eq 9, 0, 0, 0), (8, .aload_n 0, 0, 0, 0), (9, .iconst 5, 0, 0, 0)]
def zm_c91_1 : List (Nat × zm_I) := [(10, .putfield 84, 5, 12, 0), (13, .return_, 0, 0, 0), (14, .aload_n 0, 0, 0, 0), (15, .getfield 147, 5, 38, 0), (18, .istore_n 2, 0, 0, 0), (19, .aload_n 0, 0, 0, 0)]
def zm_c91_2 : List (Nat × zm_I) := [(20, .getfield 69, 5, 26, 0), (23, .iload_n 1, 0, 0, 0), (24, .iaload, 0, 0, 0), (25, .istore_n 3, 0, 0, 0), (26, .aload_n 0, 0, 0, 0), (27, .getfield 63, 5, 21, 0)]
def zm_c91_3 : List (Nat × zm_I) := [(30, .aload_n 0, 0, 0, 0), (31, .getfield 129, 5, 25, 0), (34, .aload_n 0, 0, 0, 0), (35, .aload_n 0, 0, 0, 0), (36, .iload_n 3, 0, 0, 0), (37, .iconst 1, 0, 0, 0)]
def zm_c91_4 : List (Nat × zm_I) := [(38, .iadd, 0, 0, 0), (39, .invokevirtual 126, 0, 0, 0), (42, .aload_n 0, 0, 0, 0), (43, .getfield 72, 5, 27, 0), (46, .iload_n 1, 0, 0, 0), (47, .iaload, 0, 0, 0)]
def zm_c91_5 : List (Nat × zm_I) := [(48, .invokevirtual 181, 0, 0, 0), (51, .iastore, 0, 0, 0), (52, .aload_n 0, 0, 0, 0), (53, .getfield 66, 5, 22, 0), (56, .aload_n 0, 0, 0, 0), (57, .getfield 129, 5, 25, 0)]
def zm_c91_6 : List (Nat × zm_I) := [(60, .aload_n 0, 0, 0, 0), (61, .getfield 150, 5, 39, 0), (64, .iastore, 0, 0, 0), (65, .aload_n 0, 0, 0, 0), (66, .dup, 0, 0, 0), (67, .getfield 129, 5, 25, 0)]
def zm_c91_7 : List (Nat × zm_I) := [(70, .iconst 1, 0, 0, 0), (71, .iadd, 0, 0, 0), (72, .putfield 129, 5, 25, 0), (75, .aload_n 0, 0, 0, 0), (76, .getfield 129, 5, 25, 0), (79, .iconst 1, 0, 0, 0)]
def zm_c91_8 : List (Nat × zm_I) := [(80, .isub, 0, 0, 0), (81, .istore 4, 0, 0, 0), (83, .aload_n 0, 0, 0, 0), (84, .iload 4, 0, 0, 0), (86, .invokevirtual 184, 0, 0, 0), (89, .istore 5, 0, 0, 0)]
def zm_c91_9 : List (Nat × zm_I) := [(91, .aload_n 0, 0, 0, 0), (92, .getfield 31, 5, 7, 0), (95, .iload_n 2, 0, 0, 0), (96, .baload, 0, 0, 0), (97, .ifCond .ne 11, 0, 0, 0), (100, .aload_n 0, 0, 0, 0)]
def zm_c91_10 : List (Nat × zm_I) := [(101, .iconst 2, 0, 0, 0), (102, .putfield 84, 5, 12, 0), (105, .goto 34, 0, 0, 0), (108, .iload 5, 0, 0, 0), (110, .aload_n 0, 0, 0, 0), (111, .getfield 25, 5, 5, 0)]
def zm_c91_11 : List (Nat × zm_I) := [(114, .iload_n 2, 0, 0, 0), (115, .iaload, 0, 0, 0), (116, .if_icmp .ge 14, 0, 0, 0), (119, .aload_n 0, 0, 0, 0), (120, .iconst 3, 0, 0, 0), (121, .iload_n 2, 0, 0, 0)]
def zm_c91_12 : List (Nat × zm_I) := [(122, .iload 4, 0, 0, 0), (124, .invokevirtual 157, 0, 0, 0), (127, .goto 12, 0, 0, 0), (130, .aload_n 0, 0, 0, 0), (131, .iload_n 2, 0, 0, 0), (132, .iload 4, 0, 0, 0)]
def zm_c91_13 : List (Nat × zm_I) := [(134, .iload 5, 0, 0, 0), (136, .invokevirtual 187, 0, 0, 0), (139, .return_, 0, 0, 0)]
def zm_g91 (pc : Nat) : Option zm_I := cond (Nat.blt pc 70) (cond (Nat.blt pc 30) (cond (Nat.blt pc 10) (zm_lk zm_c91_0 pc) (cond (Nat.blt pc 20) (zm_lk zm_c91_1 pc) (zm_lk zm_c91_2 pc))) (cond (Nat.blt pc 48) (cond (Nat.blt pc 38) (zm_lk zm_c91_3 pc) (zm_lk zm_c91_4 pc)) (cond (Nat.blt pc 60) (zm_lk zm_c91_5 pc) (zm_lk zm_c91_6 pc)))) (cond (Nat.blt pc 101) (cond (Nat.blt pc 80) (zm_lk zm_c91_7 pc) (cond (Nat.blt pc 91) (zm_lk zm_c91_8 pc) (zm_lk zm_c91_9 pc))) (cond (Nat.blt pc 122) (cond (Nat.blt pc 114) (zm_lk zm_c91_10 pc) (zm_lk zm_c91_11 pc)) (cond (Nat.blt pc 134) (zm_lk zm_c91_12 pc) (zm_lk zm_c91_13 pc))))
/-- NeedMachineModel.closureOf(II)I -/
def zm_c92_0 : List (Nat × zm_I) := [(0, .aload_n 0, 0, 0, 0), (1, .getfield 13, 5, 1, 0), (4, .iload_n 1, 0, 0, 0), (5, .iaload, 0, 0, 0), (6, .bipush 97, 0, 0, 0), (8, .bipush 102, 0, 0, 0)]
def zm_c92_1 : List (Nat × zm_I) := [(10, .invokestatic 87, 0, 0, 0), (13, .ifCond .eq 15, 0, 0, 0), (16, .aload_n 0, 0, 0, 0), (17, .aload_n 0, 0, 0, 0), (18, .getfield 13, 5, 1, 0), (21, .iload_n 1, 0, 0, 0)]
def zm_c92_2 : List (Nat × zm_I) := [(22, .iaload, 0, 0, 0), (23, .iload_n 2, 0, 0, 0), (24, .invokevirtual 153, 0, 0, 0), (27, .ireturn, 0, 0, 0), (28, .aload_n 0, 0, 0, 0), (29, .getfield 39, 5, 13, 0)]
def zm_c92_3 : List (Nat × zm_I) := [(32, .aload_n 0, 0, 0, 0), (33, .getfield 135, 5, 23, 0), (36, .iload_n 1, 0, 0, 0), (37, .iastore, 0, 0, 0), (38, .aload_n 0, 0, 0, 0), (39, .getfield 42, 5, 14, 0)]
def zm_c92_4 : List (Nat × zm_I) := [(42, .aload_n 0, 0, 0, 0), (43, .getfield 135, 5, 23, 0), (46, .iload_n 2, 0, 0, 0), (47, .iastore, 0, 0, 0), (48, .aload_n 0, 0, 0, 0), (49, .getfield 45, 5, 15, 0)]
def zm_c92_5 : List (Nat × zm_I) := [(52, .aload_n 0, 0, 0, 0), (53, .getfield 135, 5, 23, 0), (56, .iconst 0, 0, 0, 0), (57, .iastore, 0, 0, 0), (58, .aload_n 0, 0, 0, 0), (59, .dup, 0, 0, 0)]
def zm_c92_6 : List (Nat × zm_I) := [(60, .getfield 135, 5, 23, 0), (63, .iconst 1, 0, 0, 0), (64, .iadd, 0, 0, 0), (65, .putfield 135, 5, 23, 0), (68, .aload_n 0, 0, 0, 0), (69, .getfield 135, 5, 23, 0)]
def zm_c92_7 : List (Nat × zm_I) := [(72, .iconst 1, 0, 0, 0), (73, .isub, 0, 0, 0), (74, .ireturn, 0, 0, 0)]
def zm_g92 (pc : Nat) : Option zm_I := cond (Nat.blt pc 42) (cond (Nat.blt pc 22) (cond (Nat.blt pc 10) (zm_lk zm_c92_0 pc) (zm_lk zm_c92_1 pc)) (cond (Nat.blt pc 32) (zm_lk zm_c92_2 pc) (zm_lk zm_c92_3 pc))) (cond (Nat.blt pc 60) (cond (Nat.blt pc 52) (zm_lk zm_c92_4 pc) (zm_lk zm_c92_5 pc)) (cond (Nat.blt pc 72) (zm_lk zm_c92_6 pc) (zm_lk zm_c92_7 pc)))
/-- NeedMachineModel.parameterOf(II)I -/
def zm_c93_0 : List (Nat × zm_I) := [(0, .iload_n 2, 0, 0, 0), (1, .iconst 4, 0, 0, 0), (2, .imul, 0, 0, 0), (3, .istore_n 3, 0, 0, 0), (4, .aload_n 0, 0, 0, 0), (5, .getfield 57, 5, 19, 0)]
def zm_c93_1 : List (Nat × zm_I) := [(8, .iload_n 3, 0, 0, 0), (9, .iaload, 0, 0, 0), (10, .iload_n 1, 0, 0, 0), (11, .if_icmp .eq 9, 0, 0, 0), (14, .iinc 3 1, 0, 0, 0), (17, .goto (-13), 0, 0, 0)]
def zm_c93_2 : List (Nat × zm_I) := [(20, .aload_n 0, 0, 0, 0), (21, .getfield 60, 5, 20, 0), (24, .iload_n 3, 0, 0, 0), (25, .iaload, 0, 0, 0), (26, .ireturn, 0, 0, 0)]
def zm_g93 (pc : Nat) : Option zm_I := cond (Nat.blt pc 8) (zm_lk zm_c93_0 pc) (cond (Nat.blt pc 20) (zm_lk zm_c93_1 pc) (zm_lk zm_c93_2 pc))
/-- NeedMachineModel.countOf(I)I -/
def zm_c94_0 : List (Nat × zm_I) := [(0, .iconst 0, 0, 0, 0), (1, .istore_n 2, 0, 0, 0), (2, .iload_n 1, 0, 0, 0), (3, .istore_n 3, 0, 0, 0), (4, .iload_n 3, 0, 0, 0), (5, .ifCond .lt 16, 0, 0, 0)]
def zm_c94_1 : List (Nat × zm_I) := [(8, .iinc 2 1, 0, 0, 0), (11, .aload_n 0, 0, 0, 0), (12, .getfield 66, 5, 22, 0), (15, .iload_n 3, 0, 0, 0), (16, .iaload, 0, 0, 0), (17, .istore_n 3, 0, 0, 0)]
def zm_c94_2 : List (Nat × zm_I) := [(18, .goto (-14), 0, 0, 0), (21, .iload_n 2, 0, 0, 0), (22, .ireturn, 0, 0, 0)]
def zm_g94 (pc : Nat) : Option zm_I := cond (Nat.blt pc 8) (zm_lk zm_c94_0 pc) (cond (Nat.blt pc 18) (zm_lk zm_c94_1 pc) (zm_lk zm_c94_2 pc))
/-- NeedMachineModel.call(III)V -/
def zm_c95_0 : List (Nat × zm_I) := [(0, .aload_n 0, 0, 0, 0), (1, .getfield 175, 5, 33, 0), (4, .sipush 400, 0, 0, 0), (7, .if_icmp .ne 9, 0, 0, 0), (10, .aload_n 0, 0, 0, 0), (11, .iconst 4, 0, 0, 0)]
def zm_c95_1 : List (Nat × zm_I) := [(12, .putfield 84, 5, 12, 0), (15, .return_, 0, 0, 0), (16, .aload_n 0, 0, 0, 0), (17, .dup, 0, 0, 0), (18, .getfield 175, 5, 33, 0), (21, .iconst 1, 0, 0, 0)]
def zm_c95_2 : List (Nat × zm_I) := [(22, .iadd, 0, 0, 0), (23, .putfield 175, 5, 33, 0), (26, .aload_n 0, 0, 0, 0), (27, .dup, 0, 0, 0), (28, .getfield 178, 5, 34, 0), (31, .iconst 1, 0, 0, 0)]
def zm_c95_3 : List (Nat × zm_I) := [(32, .iadd, 0, 0, 0), (33, .putfield 178, 5, 34, 0), (36, .iload_n 2, 0, 0, 0), (37, .istore 4, 0, 0, 0), (39, .aload_n 0, 0, 0, 0), (40, .getfield 132, 5, 24, 0)]
def zm_c95_4 : List (Nat × zm_I) := [(43, .istore 5, 0, 0, 0), (45, .aload_n 0, 0, 0, 0), (46, .dup, 0, 0, 0), (47, .getfield 132, 5, 24, 0), (50, .iconst 1, 0, 0, 0), (51, .iadd, 0, 0, 0)]
def zm_c95_5 : List (Nat × zm_I) := [(52, .putfield 132, 5, 24, 0), (55, .iconst 0, 0, 0, 0), (56, .istore 6, 0, 0, 0), (58, .iload 6, 0, 0, 0), (60, .iconst 4, 0, 0, 0), (61, .if_icmp .ge 22, 0, 0, 0)]
def zm_c95_6 : List (Nat × zm_I) := [(64, .aload_n 0, 0, 0, 0), (65, .getfield 57, 5, 19, 0), (68, .iload 5, 0, 0, 0), (70, .iconst 4, 0, 0, 0), (71, .imul, 0, 0, 0), (72, .iload 6, 0, 0, 0)]
def zm_c95_7 : List (Nat × zm_I) := [(74, .iadd, 0, 0, 0), (75, .iconst 0, 0, 0, 0), (76, .iastore, 0, 0, 0), (77, .iinc 6 1, 0, 0, 0), (80, .goto (-22), 0, 0, 0), (83, .iload_n 3, 0, 0, 0)]
def zm_c95_8 : List (Nat × zm_I) := [(84, .iconst 1, 0, 0, 0), (85, .isub, 0, 0, 0), (86, .istore 6, 0, 0, 0), (88, .iload 6, 0, 0, 0), (90, .ifCond .lt 71, 0, 0, 0), (93, .iload 6, 0, 0, 0)]
def zm_c95_9 : List (Nat × zm_I) := [(95, .aload_n 0, 0, 0, 0), (96, .getfield 25, 5, 5, 0), (99, .iload_n 1, 0, 0, 0), (100, .iaload, 0, 0, 0), (101, .if_icmp .ge 45, 0, 0, 0), (104, .aload_n 0, 0, 0, 0)]
def zm_c95_10 : List (Nat × zm_I) := [(105, .getfield 57, 5, 19, 0), (108, .iload 5, 0, 0, 0), (110, .iconst 4, 0, 0, 0), (111, .imul, 0, 0, 0), (112, .iload 6, 0, 0, 0), (114, .iadd, 0, 0, 0)]
def zm_c95_11 : List (Nat × zm_I) := [(115, .aload_n 0, 0, 0, 0), (116, .getfield 22, 5, 4, 0), (119, .iload_n 1, 0, 0, 0), (120, .iconst 4, 0, 0, 0), (121, .imul, 0, 0, 0), (122, .iload 6, 0, 0, 0)]
def zm_c95_12 : List (Nat × zm_I) := [(124, .iadd, 0, 0, 0), (125, .iaload, 0, 0, 0), (126, .iastore, 0, 0, 0), (127, .aload_n 0, 0, 0, 0), (128, .getfield 60, 5, 20, 0), (131, .iload 5, 0, 0, 0)]
def zm_c95_13 : List (Nat × zm_I) := [(133, .iconst 4, 0, 0, 0), (134, .imul, 0, 0, 0), (135, .iload 6, 0, 0, 0), (137, .iadd, 0, 0, 0), (138, .aload_n 0, 0, 0, 0), (139, .getfield 63, 5, 21, 0)]
def zm_c95_14 : List (Nat × zm_I) := [(142, .iload 4, 0, 0, 0), (144, .iaload, 0, 0, 0), (145, .iastore, 0, 0, 0), (146, .aload_n 0, 0, 0, 0), (147, .getfield 66, 5, 22, 0), (150, .iload 4, 0, 0, 0)]
def zm_c95_15 : List (Nat × zm_I) := [(152, .iaload, 0, 0, 0), (153, .istore 4, 0, 0, 0), (155, .iinc 6 (-1), 0, 0, 0), (158, .goto (-70), 0, 0, 0), (161, .aload_n 0, 0, 0, 0), (162, .getfield 75, 5, 28, 0)]
def zm_c95_16 : List (Nat × zm_I) := [(165, .aload_n 0, 0, 0, 0), (166, .getfield 138, 5, 31, 0), (169, .iconst 4, 0, 0, 0), (170, .iastore, 0, 0, 0), (171, .aload_n 0, 0, 0, 0), (172, .aload_n 0, 0, 0, 0)]
def zm_c95_17 : List (Nat × zm_I) := [(173, .getfield 19, 5, 3, 0), (176, .iload_n 1, 0, 0, 0), (177, .iaload, 0, 0, 0), (178, .iload 5, 0, 0, 0), (180, .invokevirtual 171, 0, 0, 0), (183, .return_, 0, 0, 0)]
def zm_g95 (pc : Nat) : Option zm_I := cond (Nat.blt pc 95) (cond (Nat.blt pc 43) (cond (Nat.blt pc 22) (cond (Nat.blt pc 12) (zm_lk zm_c95_0 pc) (zm_lk zm_c95_1 pc)) (cond (Nat.blt pc 32) (zm_lk zm_c95_2 pc) (zm_lk zm_c95_3 pc))) (cond (Nat.blt pc 64) (cond (Nat.blt pc 52) (zm_lk zm_c95_4 pc) (zm_lk zm_c95_5 pc)) (cond (Nat.blt pc 74) (zm_lk zm_c95_6 pc) (cond (Nat.blt pc 84) (zm_lk zm_c95_7 pc) (zm_lk zm_c95_8 pc))))) (cond (Nat.blt pc 133) (cond (Nat.blt pc 115) (cond (Nat.blt pc 105) (zm_lk zm_c95_9 pc) (zm_lk zm_c95_10 pc)) (cond (Nat.blt pc 124) (zm_lk zm_c95_11 pc) (zm_lk zm_c95_12 pc))) (cond (Nat.blt pc 152) (cond (Nat.blt pc 142) (zm_lk zm_c95_13 pc) (zm_lk zm_c95_14 pc)) (cond (Nat.blt pc 165) (zm_lk zm_c95_15 pc) (cond (Nat.blt pc 173) (zm_lk zm_c95_16 pc) (zm_lk zm_c95_17 pc)))))
/-- NeedMachineModel.force(I)V -/
def zm_c96_0 : List (Nat × zm_I) := [(0, .aload_n 0, 0, 0, 0), (1, .getfield 45, 5, 15, 0), (4, .iload_n 1, 0, 0, 0), (5, .iaload, 0, 0, 0), (6, .iconst 2, 0, 0, 0), (7, .if_icmp .ne 19, 0, 0, 0)]
def zm_c96_1 : List (Nat × zm_I) := [(10, .aload_n 0, 0, 0, 0), (11, .dup, 0, 0, 0), (12, .getfield 161, 5, 36, 0), (15, .iconst 1, 0, 0, 0), (16, .iadd, 0, 0, 0), (17, .putfield 161, 5, 36, 0)]
def zm_c96_2 : List (Nat × zm_I) := [(20, .aload_n 0, 0, 0, 0), (21, .iload_n 1, 0, 0, 0), (22, .invokevirtual 164, 0, 0, 0), (25, .return_, 0, 0, 0), (26, .aload_n 0, 0, 0, 0), (27, .getfield 45, 5, 15, 0)]
def zm_c96_3 : List (Nat × zm_I) := [(30, .iload_n 1, 0, 0, 0), (31, .iaload, 0, 0, 0), (32, .iconst 1, 0, 0, 0), (33, .if_icmp .ne 9, 0, 0, 0), (36, .aload_n 0, 0, 0, 0), (37, .iconst 4, 0, 0, 0)]
def zm_c96_4 : List (Nat × zm_I) := [(38, .putfield 84, 5, 12, 0), (41, .return_, 0, 0, 0), (42, .aload_n 0, 0, 0, 0), (43, .dup, 0, 0, 0), (44, .getfield 168, 5, 35, 0), (47, .iconst 1, 0, 0, 0)]
def zm_c96_5 : List (Nat × zm_I) := [(48, .iadd, 0, 0, 0), (49, .putfield 168, 5, 35, 0), (52, .aload_n 0, 0, 0, 0), (53, .getfield 45, 5, 15, 0), (56, .iload_n 1, 0, 0, 0), (57, .iconst 1, 0, 0, 0)]
def zm_c96_6 : List (Nat × zm_I) := [(58, .iastore, 0, 0, 0), (59, .aload_n 0, 0, 0, 0), (60, .getfield 81, 5, 30, 0), (63, .aload_n 0, 0, 0, 0), (64, .getfield 138, 5, 31, 0), (67, .iload_n 1, 0, 0, 0)]
def zm_c96_7 : List (Nat × zm_I) := [(68, .iastore, 0, 0, 0), (69, .aload_n 0, 0, 0, 0), (70, .getfield 75, 5, 28, 0), (73, .aload_n 0, 0, 0, 0), (74, .getfield 138, 5, 31, 0), (77, .iconst 3, 0, 0, 0)]
def zm_c96_8 : List (Nat × zm_I) := [(78, .iastore, 0, 0, 0), (79, .aload_n 0, 0, 0, 0), (80, .aload_n 0, 0, 0, 0), (81, .getfield 39, 5, 13, 0), (84, .iload_n 1, 0, 0, 0), (85, .iaload, 0, 0, 0)]
def zm_c96_9 : List (Nat × zm_I) := [(86, .aload_n 0, 0, 0, 0), (87, .getfield 42, 5, 14, 0), (90, .iload_n 1, 0, 0, 0), (91, .iaload, 0, 0, 0), (92, .invokevirtual 171, 0, 0, 0), (95, .return_, 0, 0, 0)]
def zm_g96 (pc : Nat) : Option zm_I := cond (Nat.blt pc 48) (cond (Nat.blt pc 20) (cond (Nat.blt pc 10) (zm_lk zm_c96_0 pc) (zm_lk zm_c96_1 pc)) (cond (Nat.blt pc 30) (zm_lk zm_c96_2 pc) (cond (Nat.blt pc 38) (zm_lk zm_c96_3 pc) (zm_lk zm_c96_4 pc)))) (cond (Nat.blt pc 68) (cond (Nat.blt pc 58) (zm_lk zm_c96_5 pc) (zm_lk zm_c96_6 pc)) (cond (Nat.blt pc 78) (zm_lk zm_c96_7 pc) (cond (Nat.blt pc 86) (zm_lk zm_c96_8 pc) (zm_lk zm_c96_9 pc))))
/-- NeedMachineModel.isNumber()Z -/
def zm_c97_0 : List (Nat × zm_I) := [(0, .aload_n 0, 0, 0, 0), (1, .getfield 144, 5, 37, 0), (4, .ifCond .eq 8, 0, 0, 0), (7, .aload_n 0, 0, 0, 0), (8, .iconst 5, 0, 0, 0), (9, .putfield 84, 5, 12, 0)]
def zm_c97_1 : List (Nat × zm_I) := [(12, .aload_n 0, 0, 0, 0), (13, .getfield 84, 5, 12, 0), (16, .ifCond .ne 7, 0, 0, 0), (19, .iconst 1, 0, 0, 0), (20, .goto 4, 0, 0, 0), (23, .iconst 0, 0, 0, 0)]
def zm_c97_2 : List (Nat × zm_I) := [(24, .ireturn, 0, 0, 0)]
def zm_g97 (pc : Nat) : Option zm_I := cond (Nat.blt pc 12) (zm_lk zm_c97_0 pc) (cond (Nat.blt pc 24) (zm_lk zm_c97_1 pc) (zm_lk zm_c97_2 pc))
/-- NeedMachineModel.binary(III)I -/
def zm_c98_0 : List (Nat × zm_I) := [(0, .iload_n 1, 0, 0, 0), (1, .bipush 47, 0, 0, 0), (3, .if_icmp .eq 9, 0, 0, 0), (6, .iload_n 1, 0, 0, 0), (7, .bipush 37, 0, 0, 0), (9, .if_icmp .ne 13, 0, 0, 0)]
def zm_c98_1 : List (Nat × zm_I) := [(12, .iload_n 3, 0, 0, 0), (13, .ifCond .ne 9, 0, 0, 0), (16, .aload_n 0, 0, 0, 0), (17, .iconst 3, 0, 0, 0), (18, .invokevirtual 98, 0, 0, 0), (21, .ireturn, 0, 0, 0)]
def zm_c98_2 : List (Nat × zm_I) := [(22, .iload_n 1, 0, 0, 0), (23, .lookupswitch 88 #[(37, 73), (42, 65), (43, 57), (45, 61), (47, 69), (60, 77)], 57, 0, 0), (80, .iload_n 2, 0, 0, 0), (81, .iload_n 3, 0, 0, 0), (82, .iadd, 0, 0, 0), (83, .ireturn, 0, 0, 0)]
def zm_c98_3 : List (Nat × zm_I) := [(84, .iload_n 2, 0, 0, 0), (85, .iload_n 3, 0, 0, 0), (86, .isub, 0, 0, 0), (87, .ireturn, 0, 0, 0), (88, .iload_n 2, 0, 0, 0), (89, .iload_n 3, 0, 0, 0)]
def zm_c98_4 : List (Nat × zm_I) := [(90, .imul, 0, 0, 0), (91, .ireturn, 0, 0, 0), (92, .iload_n 2, 0, 0, 0), (93, .iload_n 3, 0, 0, 0), (94, .idiv, 0, 0, 0), (95, .ireturn, 0, 0, 0)]
def zm_c98_5 : List (Nat × zm_I) := [(96, .iload_n 2, 0, 0, 0), (97, .iload_n 3, 0, 0, 0), (98, .irem, 0, 0, 0), (99, .ireturn, 0, 0, 0), (100, .iload_n 2, 0, 0, 0), (101, .iload_n 3, 0, 0, 0)]
def zm_c98_6 : List (Nat × zm_I) := [(102, .if_icmp .ge 7, 0, 0, 0), (105, .iconst 1, 0, 0, 0), (106, .goto 4, 0, 0, 0), (109, .iconst 0, 0, 0, 0), (110, .ireturn, 0, 0, 0), (111, .iload_n 2, 0, 0, 0)]
def zm_c98_7 : List (Nat × zm_I) := [(112, .iload_n 3, 0, 0, 0), (113, .if_icmp .ne 7, 0, 0, 0), (116, .iconst 1, 0, 0, 0), (117, .goto 4, 0, 0, 0), (120, .iconst 0, 0, 0, 0), (121, .ireturn, 0, 0, 0)]
def zm_g98 (pc : Nat) : Option zm_I := cond (Nat.blt pc 90) (cond (Nat.blt pc 22) (cond (Nat.blt pc 12) (zm_lk zm_c98_0 pc) (zm_lk zm_c98_1 pc)) (cond (Nat.blt pc 84) (zm_lk zm_c98_2 pc) (zm_lk zm_c98_3 pc))) (cond (Nat.blt pc 102) (cond (Nat.blt pc 96) (zm_lk zm_c98_4 pc) (zm_lk zm_c98_5 pc)) (cond (Nat.blt pc 112) (zm_lk zm_c98_6 pc) (zm_lk zm_c98_7 pc)))
/-- NeedMachineModel.nameAt(I)V -/
def zm_c99_0 : List (Nat × zm_I) := [(0, .aload_n 0, 0, 0, 0), (1, .getfield 31, 5, 7, 0), (4, .iload_n 1, 0, 0, 0), (5, .baload, 0, 0, 0), (6, .ifCond .ne 11, 0, 0, 0), (9, .aload_n 0, 0, 0, 0)]
def zm_c99_1 : List (Nat × zm_I) := [(10, .iconst 2, 0, 0, 0), (11, .putfield 84, 5, 12, 0), (14, .goto 29, 0, 0, 0), (17, .aload_n 0, 0, 0, 0), (18, .getfield 25, 5, 5, 0), (21, .iload_n 1, 0, 0, 0)]
def zm_c99_2 : List (Nat × zm_I) := [(22, .iaload, 0, 0, 0), (23, .ifCond .ne 13, 0, 0, 0), (26, .aload_n 0, 0, 0, 0), (27, .iload_n 1, 0, 0, 0), (28, .iconst (-1), 0, 0, 0), (29, .iconst 0, 0, 0, 0)]
def zm_c99_3 : List (Nat × zm_I) := [(30, .invokevirtual 187, 0, 0, 0), (33, .goto 10, 0, 0, 0), (36, .aload_n 0, 0, 0, 0), (37, .iconst 3, 0, 0, 0), (38, .iload_n 1, 0, 0, 0), (39, .iconst (-1), 0, 0, 0)]
def zm_c99_4 : List (Nat × zm_I) := [(40, .invokevirtual 157, 0, 0, 0), (43, .return_, 0, 0, 0)]
def zm_g99 (pc : Nat) : Option zm_I := cond (Nat.blt pc 22) (cond (Nat.blt pc 10) (zm_lk zm_c99_0 pc) (zm_lk zm_c99_1 pc)) (cond (Nat.blt pc 30) (zm_lk zm_c99_2 pc) (cond (Nat.blt pc 40) (zm_lk zm_c99_3 pc) (zm_lk zm_c99_4 pc)))
/-- NeedMachineModel.answer()I -/
def zm_c100_0 : List (Nat × zm_I) := [(0, .aload_n 0, 0, 0, 0), (1, .aload_n 0, 0, 0, 0), (2, .getfield 84, 5, 12, 0), (5, .ifCond .ne 7, 0, 0, 0), (8, .iconst 1, 0, 0, 0), (9, .goto 4, 0, 0, 0)]
def zm_c100_1 : List (Nat × zm_I) := [(12, .iconst 0, 0, 0, 0), (13, .putfield 216, 5, 43, 0), (16, .aload_n 0, 0, 0, 0), (17, .getfield 216, 5, 43, 0), (20, .ifCond .ne 5, 0, 0, 0), (23, .iconst 0, 0, 0, 0)]
def zm_c100_2 : List (Nat × zm_I) := [(24, .ireturn, 0, 0, 0), (25, .aload_n 0, 0, 0, 0), (26, .aload_n 0, 0, 0, 0), (27, .getfield 144, 5, 37, 0), (30, .putfield 220, 5, 40, 0), (33, .aload_n 0, 0, 0, 0)]
def zm_c100_3 : List (Nat × zm_I) := [(34, .aload_n 0, 0, 0, 0), (35, .getfield 147, 5, 38, 0), (38, .putfield 223, 5, 41, 0), (41, .aload_n 0, 0, 0, 0), (42, .aload_n 0, 0, 0, 0), (43, .getfield 150, 5, 39, 0)]
def zm_c100_4 : List (Nat × zm_I) := [(46, .putfield 226, 5, 42, 0), (49, .aload_n 0, 0, 0, 0), (50, .getfield 220, 5, 40, 0), (53, .ireturn, 0, 0, 0)]
def zm_g100 (pc : Nat) : Option zm_I := cond (Nat.blt pc 24) (cond (Nat.blt pc 12) (zm_lk zm_c100_0 pc) (zm_lk zm_c100_1 pc)) (cond (Nat.blt pc 34) (zm_lk zm_c100_2 pc) (cond (Nat.blt pc 46) (zm_lk zm_c100_3 pc) (zm_lk zm_c100_4 pc)))
/-- NeedMachineModel.number()I -/
def zm_c101_0 : List (Nat × zm_I) := [(0, .aload_n 0, 0, 0, 0), (1, .aload_n 0, 0, 0, 0), (2, .getfield 216, 5, 43, 0), (5, .ifCond .ne 7, 0, 0, 0), (8, .iconst 1, 0, 0, 0), (9, .goto 15, 0, 0, 0)]
def zm_c101_1 : List (Nat × zm_I) := [(12, .aload_n 0, 0, 0, 0), (13, .getfield 220, 5, 40, 0), (16, .ifCond .eq 7, 0, 0, 0), (19, .iconst 2, 0, 0, 0), (20, .goto 4, 0, 0, 0), (23, .iconst 0, 0, 0, 0)]
def zm_c101_2 : List (Nat × zm_I) := [(24, .putfield 84, 5, 12, 0), (27, .aload_n 0, 0, 0, 0), (28, .getfield 84, 5, 12, 0), (31, .ifCond .le 7, 0, 0, 0), (34, .iconst 0, 0, 0, 0), (35, .goto 7, 0, 0, 0)]
def zm_c101_3 : List (Nat × zm_I) := [(38, .aload_n 0, 0, 0, 0), (39, .getfield 223, 5, 41, 0), (42, .ireturn, 0, 0, 0)]
def zm_g101 (pc : Nat) : Option zm_I := cond (Nat.blt pc 24) (cond (Nat.blt pc 12) (zm_lk zm_c101_0 pc) (zm_lk zm_c101_1 pc)) (cond (Nat.blt pc 38) (zm_lk zm_c101_2 pc) (zm_lk zm_c101_3 pc))
/-- NeedMachineModel.head()I -/
def zm_c102_0 : List (Nat × zm_I) := [(0, .aload_n 0, 0, 0, 0), (1, .iconst 1, 0, 0, 0), (2, .invokevirtual 238, 0, 0, 0), (5, .ifCond .eq 10, 0, 0, 0), (8, .aload_n 0, 0, 0, 0), (9, .getfield 147, 5, 38, 0)]
def zm_c102_1 : List (Nat × zm_I) := [(12, .goto 4, 0, 0, 0), (15, .iconst 0, 0, 0, 0), (16, .ireturn, 0, 0, 0)]
def zm_g102 (pc : Nat) : Option zm_I := cond (Nat.blt pc 12) (zm_lk zm_c102_0 pc) (zm_lk zm_c102_1 pc)
/-- NeedMachineModel.side(Z)Z -/
def zm_c103_0 : List (Nat × zm_I) := [(0, .aload_n 0, 0, 0, 0), (1, .aload_n 0, 0, 0, 0), (2, .getfield 216, 5, 43, 0), (5, .ifCond .eq 11, 0, 0, 0), (8, .aload_n 0, 0, 0, 0), (9, .getfield 220, 5, 40, 0)]
def zm_c103_1 : List (Nat × zm_I) := [(12, .iconst 1, 0, 0, 0), (13, .if_icmp .ne 7, 0, 0, 0), (16, .iconst 2, 0, 0, 0), (17, .goto 16, 0, 0, 0), (20, .aload_n 0, 0, 0, 0), (21, .getfield 220, 5, 40, 0)]
def zm_c103_2 : List (Nat × zm_I) := [(24, .iconst 2, 0, 0, 0), (25, .if_icmp .eq 7, 0, 0, 0), (28, .iconst 5, 0, 0, 0), (29, .goto 4, 0, 0, 0), (32, .iconst 0, 0, 0, 0), (33, .putfield 84, 5, 12, 0)]
def zm_c103_3 : List (Nat × zm_I) := [(36, .aload_n 0, 0, 0, 0), (37, .getfield 84, 5, 12, 0), (40, .ifCond .ne 165, 0, 0, 0), (43, .iload_n 1, 0, 0, 0), (44, .ifCond .eq 10, 0, 0, 0), (47, .aload_n 0, 0, 0, 0)]
def zm_c103_4 : List (Nat × zm_I) := [(48, .getfield 223, 5, 41, 0), (51, .goto 7, 0, 0, 0), (54, .aload_n 0, 0, 0, 0), (55, .getfield 226, 5, 42, 0), (58, .istore_n 2, 0, 0, 0), (59, .aload_n 0, 0, 0, 0)]
def zm_c103_5 : List (Nat × zm_I) := [(60, .getfield 45, 5, 15, 0), (63, .iload_n 2, 0, 0, 0), (64, .iaload, 0, 0, 0), (65, .iconst 2, 0, 0, 0), (66, .if_icmp .ne 16, 0, 0, 0), (69, .aload_n 0, 0, 0, 0)]
def zm_c103_6 : List (Nat × zm_I) := [(70, .dup, 0, 0, 0), (71, .getfield 161, 5, 36, 0), (74, .iconst 1, 0, 0, 0), (75, .iadd, 0, 0, 0), (76, .putfield 161, 5, 36, 0), (79, .goto 73, 0, 0, 0)]
def zm_c103_7 : List (Nat × zm_I) := [(82, .aload_n 0, 0, 0, 0), (83, .dup, 0, 0, 0), (84, .getfield 168, 5, 35, 0), (87, .iconst 1, 0, 0, 0), (88, .iadd, 0, 0, 0), (89, .putfield 168, 5, 35, 0)]
def zm_c103_8 : List (Nat × zm_I) := [(92, .aload_n 0, 0, 0, 0), (93, .getfield 45, 5, 15, 0), (96, .iload_n 2, 0, 0, 0), (97, .iconst 1, 0, 0, 0), (98, .iastore, 0, 0, 0), (99, .aload_n 0, 0, 0, 0)]
def zm_c103_9 : List (Nat × zm_I) := [(100, .aload_n 0, 0, 0, 0), (101, .getfield 39, 5, 13, 0), (104, .iload_n 2, 0, 0, 0), (105, .iaload, 0, 0, 0), (106, .aload_n 0, 0, 0, 0), (107, .getfield 42, 5, 14, 0)]
def zm_c103_10 : List (Nat × zm_I) := [(110, .iload_n 2, 0, 0, 0), (111, .iaload, 0, 0, 0), (112, .invokevirtual 232, 0, 0, 0), (115, .aload_n 0, 0, 0, 0), (116, .getfield 45, 5, 15, 0), (119, .iload_n 2, 0, 0, 0)]
def zm_c103_11 : List (Nat × zm_I) := [(120, .iconst 2, 0, 0, 0), (121, .iastore, 0, 0, 0), (122, .aload_n 0, 0, 0, 0), (123, .getfield 48, 5, 16, 0), (126, .iload_n 2, 0, 0, 0), (127, .aload_n 0, 0, 0, 0)]
def zm_c103_12 : List (Nat × zm_I) := [(128, .getfield 144, 5, 37, 0), (131, .iastore, 0, 0, 0), (132, .aload_n 0, 0, 0, 0), (133, .getfield 51, 5, 17, 0), (136, .iload_n 2, 0, 0, 0), (137, .aload_n 0, 0, 0, 0)]
def zm_c103_13 : List (Nat × zm_I) := [(138, .getfield 147, 5, 38, 0), (141, .iastore, 0, 0, 0), (142, .aload_n 0, 0, 0, 0), (143, .getfield 54, 5, 18, 0), (146, .iload_n 2, 0, 0, 0), (147, .aload_n 0, 0, 0, 0)]
def zm_c103_14 : List (Nat × zm_I) := [(148, .getfield 150, 5, 39, 0), (151, .iastore, 0, 0, 0), (152, .aload_n 0, 0, 0, 0), (153, .aload_n 0, 0, 0, 0), (154, .getfield 48, 5, 16, 0), (157, .iload_n 2, 0, 0, 0)]
def zm_c103_15 : List (Nat × zm_I) := [(158, .iaload, 0, 0, 0), (159, .putfield 144, 5, 37, 0), (162, .aload_n 0, 0, 0, 0), (163, .aload_n 0, 0, 0, 0), (164, .getfield 51, 5, 17, 0), (167, .iload_n 2, 0, 0, 0)]
def zm_c103_16 : List (Nat × zm_I) := [(168, .iaload, 0, 0, 0), (169, .putfield 147, 5, 38, 0), (172, .aload_n 0, 0, 0, 0), (173, .aload_n 0, 0, 0, 0), (174, .getfield 54, 5, 18, 0), (177, .iload_n 2, 0, 0, 0)]
def zm_c103_17 : List (Nat × zm_I) := [(178, .iaload, 0, 0, 0), (179, .putfield 150, 5, 39, 0), (182, .aload_n 0, 0, 0, 0), (183, .getfield 84, 5, 12, 0), (186, .ifCond .ne 19, 0, 0, 0), (189, .iload_n 1, 0, 0, 0)]
def zm_c103_18 : List (Nat × zm_I) := [(190, .ifCond .eq 15, 0, 0, 0), (193, .aload_n 0, 0, 0, 0), (194, .getfield 144, 5, 37, 0), (197, .ifCond .eq 8, 0, 0, 0), (200, .aload_n 0, 0, 0, 0), (201, .iconst 5, 0, 0, 0)]
def zm_c103_19 : List (Nat × zm_I) := [(202, .putfield 84, 5, 12, 0), (205, .aload_n 0, 0, 0, 0), (206, .getfield 84, 5, 12, 0), (209, .ifCond .ne 5, 0, 0, 0), (212, .iconst 1, 0, 0, 0), (213, .ireturn, 0, 0, 0)]
def zm_c103_20 : List (Nat × zm_I) := [(214, .aload_n 0, 0, 0, 0), (215, .dup, 0, 0, 0), (216, .getfield 84, 5, 12, 0), (219, .iconst 1, 0, 0, 0), (220, .isub, 0, 0, 0), (221, .putfield 84, 5, 12, 0)]
def zm_c103_21 : List (Nat × zm_I) := [(224, .aload_n 0, 0, 0, 0), (225, .iconst 0, 0, 0, 0), (226, .putfield 216, 5, 43, 0), (229, .iconst 0, 0, 0, 0), (230, .ireturn, 0, 0, 0)]
def zm_g103 (pc : Nat) : Option zm_I := cond (Nat.blt pc 120) (cond (Nat.blt pc 60) (cond (Nat.blt pc 24) (cond (Nat.blt pc 12) (zm_lk zm_c103_0 pc) (zm_lk zm_c103_1 pc)) (cond (Nat.blt pc 36) (zm_lk zm_c103_2 pc) (cond (Nat.blt pc 48) (zm_lk zm_c103_3 pc) (zm_lk zm_c103_4 pc)))) (cond (Nat.blt pc 92) (cond (Nat.blt pc 70) (zm_lk zm_c103_5 pc) (cond (Nat.blt pc 82) (zm_lk zm_c103_6 pc) (zm_lk zm_c103_7 pc))) (cond (Nat.blt pc 100) (zm_lk zm_c103_8 pc) (cond (Nat.blt pc 110) (zm_lk zm_c103_9 pc) (zm_lk zm_c103_10 pc))))) (cond (Nat.blt pc 168) (cond (Nat.blt pc 138) (cond (Nat.blt pc 128) (zm_lk zm_c103_11 pc) (zm_lk zm_c103_12 pc)) (cond (Nat.blt pc 148) (zm_lk zm_c103_13 pc) (cond (Nat.blt pc 158) (zm_lk zm_c103_14 pc) (zm_lk zm_c103_15 pc)))) (cond (Nat.blt pc 202) (cond (Nat.blt pc 178) (zm_lk zm_c103_16 pc) (cond (Nat.blt pc 190) (zm_lk zm_c103_17 pc) (zm_lk zm_c103_18 pc))) (cond (Nat.blt pc 214) (zm_lk zm_c103_19 pc) (cond (Nat.blt pc 224) (zm_lk zm_c103_20 pc) (zm_lk zm_c103_21 pc)))))
/-- NeedMachineModel.tail()I -/
def zm_c104_0 : List (Nat × zm_I) := [(0, .aload_n 0, 0, 0, 0), (1, .iconst 0, 0, 0, 0), (2, .invokevirtual 238, 0, 0, 0), (5, .ifCond .eq 10, 0, 0, 0), (8, .aload_n 0, 0, 0, 0), (9, .invokevirtual 235, 0, 0, 0)]
def zm_c104_1 : List (Nat × zm_I) := [(12, .goto 4, 0, 0, 0), (15, .iconst 0, 0, 0, 0), (16, .ireturn, 0, 0, 0)]
def zm_g104 (pc : Nat) : Option zm_I := cond (Nat.blt pc 12) (zm_lk zm_c104_0 pc) (zm_lk zm_c104_1 pc)
/-- NeedMachineModel.remove(I)V -/
def zm_c105_0 : List (Nat × zm_I) := [(0, .aload_n 0, 0, 0, 0), (1, .iload_n 1, 0, 0, 0), (2, .iconst 0, 0, 0, 0), (3, .iconst 5, 0, 0, 0), (4, .invokestatic 87, 0, 0, 0), (7, .invokevirtual 91, 0, 0, 0)]
def zm_c105_1 : List (Nat × zm_I) := [(10, .ifCond .eq 4, 0, 0, 0), (13, .return_, 0, 0, 0), (14, .aload_n 0, 0, 0, 0), (15, .getfield 31, 5, 7, 0), (18, .iload_n 1, 0, 0, 0), (19, .baload, 0, 0, 0)]
def zm_c105_2 : List (Nat × zm_I) := [(20, .ifCond .ne 8, 0, 0, 0), (23, .aload_n 0, 0, 0, 0), (24, .iconst 2, 0, 0, 0), (25, .putfield 84, 5, 12, 0), (28, .aload_n 0, 0, 0, 0), (29, .getfield 31, 5, 7, 0)]
def zm_c105_3 : List (Nat × zm_I) := [(32, .iload_n 1, 0, 0, 0), (33, .iconst 0, 0, 0, 0), (34, .bastore, 0, 0, 0), (35, .return_, 0, 0, 0)]
def zm_g105 (pc : Nat) : Option zm_I := cond (Nat.blt pc 20) (cond (Nat.blt pc 10) (zm_lk zm_c105_0 pc) (zm_lk zm_c105_1 pc)) (cond (Nat.blt pc 32) (zm_lk zm_c105_2 pc) (zm_lk zm_c105_3 pc))
/-- NeedMachineModel.count(I)I -/
def zm_c106_0 : List (Nat × zm_I) := [(0, .aload_n 0, 0, 0, 0), (1, .iconst 0, 0, 0, 0), (2, .putfield 84, 5, 12, 0), (5, .iconst 0, 0, 0, 0), (6, .istore_n 2, 0, 0, 0), (7, .iconst 0, 0, 0, 0)]
def zm_c106_1 : List (Nat × zm_I) := [(8, .istore_n 3, 0, 0, 0), (9, .iload_n 3, 0, 0, 0), (10, .bipush 6, 0, 0, 0), (12, .if_icmp .ge 21, 0, 0, 0), (15, .aload_n 0, 0, 0, 0), (16, .getfield 31, 5, 7, 0)]
def zm_c106_2 : List (Nat × zm_I) := [(19, .iload_n 3, 0, 0, 0), (20, .baload, 0, 0, 0), (21, .ifCond .eq 6, 0, 0, 0), (24, .iinc 2 1, 0, 0, 0), (27, .iinc 3 1, 0, 0, 0), (30, .goto (-21), 0, 0, 0)]
def zm_c106_3 : List (Nat × zm_I) := [(33, .iload_n 1, 0, 0, 0), (34, .tableswitch 83 0 7 #[46, 51, 56, 58, 63, 68, 73, 78], 46, 0, 0), (80, .aload_n 0, 0, 0, 0), (81, .getfield 35, 5, 9, 0), (84, .ireturn, 0, 0, 0), (85, .aload_n 0, 0, 0, 0)]
def zm_c106_4 : List (Nat × zm_I) := [(86, .getfield 95, 5, 8, 0), (89, .ireturn, 0, 0, 0), (90, .iload_n 2, 0, 0, 0), (91, .ireturn, 0, 0, 0), (92, .aload_n 0, 0, 0, 0), (93, .getfield 175, 5, 33, 0)]
def zm_c106_5 : List (Nat × zm_I) := [(96, .ireturn, 0, 0, 0), (97, .aload_n 0, 0, 0, 0), (98, .getfield 178, 5, 34, 0), (101, .ireturn, 0, 0, 0), (102, .aload_n 0, 0, 0, 0), (103, .getfield 168, 5, 35, 0)]
def zm_c106_6 : List (Nat × zm_I) := [(106, .ireturn, 0, 0, 0), (107, .aload_n 0, 0, 0, 0), (108, .getfield 161, 5, 36, 0), (111, .ireturn, 0, 0, 0), (112, .aload_n 0, 0, 0, 0), (113, .getfield 141, 5, 32, 0)]
def zm_c106_7 : List (Nat × zm_I) := [(116, .ireturn, 0, 0, 0), (117, .iconst (-1), 0, 0, 0), (118, .ireturn, 0, 0, 0)]
def zm_g106 (pc : Nat) : Option zm_I := cond (Nat.blt pc 86) (cond (Nat.blt pc 19) (cond (Nat.blt pc 8) (zm_lk zm_c106_0 pc) (zm_lk zm_c106_1 pc)) (cond (Nat.blt pc 33) (zm_lk zm_c106_2 pc) (zm_lk zm_c106_3 pc))) (cond (Nat.blt pc 106) (cond (Nat.blt pc 96) (zm_lk zm_c106_4 pc) (zm_lk zm_c106_5 pc)) (cond (Nat.blt pc 116) (zm_lk zm_c106_6 pc) (zm_lk zm_c106_7 pc)))
/-- java/util/ArrayList.size()I -/
def zm_c107_0 : List (Nat × zm_I) := [(0, .aload_n 0, 0, 0, 0), (1, .getfield 48, 4, 1, 0), (4, .ireturn, 0, 0, 0)]
def zm_g107 (pc : Nat) : Option zm_I := zm_lk zm_c107_0 pc
/-- java/util/ArrayList.get(I)Ljava/lang/Object; -/
def zm_c108_0 : List (Nat × zm_I) := [(0, .iload_n 1, 0, 0, 0), (1, .aload_n 0, 0, 0, 0), (2, .getfield 48, 4, 1, 0), (5, .invokestatic 118, 0, 0, 0), (8, .pop, 0, 0, 0), (9, .aload_n 0, 0, 0, 0)]
def zm_c108_1 : List (Nat × zm_I) := [(10, .iload_n 1, 0, 0, 0), (11, .invokevirtual 123, 0, 0, 0), (14, .areturn, 0, 0, 0)]
def zm_g108 (pc : Nat) : Option zm_I := cond (Nat.blt pc 10) (zm_lk zm_c108_0 pc) (zm_lk zm_c108_1 pc)
/-- java/util/ArrayList.elementData(I)Ljava/lang/Object; -/
def zm_c109_0 : List (Nat × zm_I) := [(0, .aload_n 0, 0, 0, 0), (1, .getfield 9, 4, 0, 0), (4, .iload_n 1, 0, 0, 0), (5, .aaload, 0, 0, 0), (6, .areturn, 0, 0, 0)]
def zm_g109 (pc : Nat) : Option zm_I := zm_lk zm_c109_0 pc
/-- java/util/ArrayList.add(Ljava/lang/Object;)Z -/
def zm_c110_0 : List (Nat × zm_I) := [(0, .aload_n 0, 0, 0, 0), (1, .dup, 0, 0, 0), (2, .getfield 63, 4, 2, 0), (5, .iconst 1, 0, 0, 0), (6, .iadd, 0, 0, 0), (7, .putfield 63, 4, 2, 0)]
def zm_c110_1 : List (Nat × zm_I) := [(10, .aload_n 0, 0, 0, 0), (11, .aload_n 1, 0, 0, 0), (12, .aload_n 0, 0, 0, 0), (13, .getfield 9, 4, 0, 0), (16, .aload_n 0, 0, 0, 0), (17, .getfield 48, 4, 1, 0)]
def zm_c110_2 : List (Nat × zm_I) := [(20, .invokevirtual 131, 0, 0, 0), (23, .iconst 1, 0, 0, 0), (24, .ireturn, 0, 0, 0)]
def zm_g110 (pc : Nat) : Option zm_I := cond (Nat.blt pc 10) (zm_lk zm_c110_0 pc) (cond (Nat.blt pc 20) (zm_lk zm_c110_1 pc) (zm_lk zm_c110_2 pc))
/-- java/util/ArrayList.add(Ljava/lang/Object;[Ljava/lang/Object;I)V -/
def zm_c111_0 : List (Nat × zm_I) := [(0, .iload_n 3, 0, 0, 0), (1, .aload_n 2, 0, 0, 0), (2, .arraylength, 0, 0, 0), (3, .if_icmp .ne 8, 0, 0, 0), (6, .aload_n 0, 0, 0, 0), (7, .invokevirtual 129, 0, 0, 0)]
def zm_c111_1 : List (Nat × zm_I) := [(10, .astore_n 2, 0, 0, 0), (11, .aload_n 2, 0, 0, 0), (12, .iload_n 3, 0, 0, 0), (13, .aload_n 1, 0, 0, 0), (14, .aastore, 0, 0, 0), (15, .aload_n 0, 0, 0, 0)]
def zm_c111_2 : List (Nat × zm_I) := [(16, .iload_n 3, 0, 0, 0), (17, .iconst 1, 0, 0, 0), (18, .iadd, 0, 0, 0), (19, .putfield 48, 4, 1, 0), (22, .return_, 0, 0, 0)]
def zm_g111 (pc : Nat) : Option zm_I := cond (Nat.blt pc 10) (zm_lk zm_c111_0 pc) (cond (Nat.blt pc 16) (zm_lk zm_c111_1 pc) (zm_lk zm_c111_2 pc))
/-- java/util/ArrayList.grow()[Ljava/lang/Object; -/
def zm_c112_0 : List (Nat × zm_I) := [(0, .aload_n 0, 0, 0, 0), (1, .aload_n 0, 0, 0, 0), (2, .getfield 48, 4, 1, 0), (5, .iconst 1, 0, 0, 0), (6, .iadd, 0, 0, 0), (7, .invokevirtual 69, 0, 0, 0)]
def zm_c112_1 : List (Nat × zm_I) := [(10, .areturn, 0, 0, 0)]
def zm_g112 (pc : Nat) : Option zm_I := cond (Nat.blt pc 10) (zm_lk zm_c112_0 pc) (zm_lk zm_c112_1 pc)
/-- java/util/ArrayList.grow(I)[Ljava/lang/Object; -/
def zm_c113_0 : List (Nat × zm_I) := [(0, .aload_n 0, 0, 0, 0), (1, .getfield 9, 4, 0, 0), (4, .arraylength, 0, 0, 0), (5, .istore_n 2, 0, 0, 0), (6, .iload_n 2, 0, 0, 0), (7, .ifCond .gt 13, 0, 0, 0)]
def zm_c113_1 : List (Nat × zm_I) := [(10, .aload_n 0, 0, 0, 0), (11, .getfield 9, 4, 0, 0), (14, .getstatic 39, 1, 0, 0), (17, .if_acmp .eq 28, 0, 0, 0), (20, .iload_n 2, 0, 0, 0), (21, .iload_n 1, 0, 0, 0)]
def zm_c113_2 : List (Nat × zm_I) := [(22, .iload_n 2, 0, 0, 0), (23, .isub, 0, 0, 0), (24, .iload_n 2, 0, 0, 0), (25, .iconst 1, 0, 0, 0), (26, .ishr, 0, 0, 0), (27, .invokestatic 73, 0, 0, 0)]
def zm_c113_3 : List (Nat × zm_I) := [(30, .istore_n 3, 0, 0, 0), (31, .aload_n 0, 0, 0, 0), (32, .aload_n 0, 0, 0, 0), (33, .getfield 9, 4, 0, 0), (36, .iload_n 3, 0, 0, 0), (37, .invokestatic 66, 0, 0, 0)]
def zm_c113_4 : List (Nat × zm_I) := [(40, .dup_x1, 0, 0, 0), (41, .putfield 9, 4, 0, 0), (44, .areturn, 0, 0, 0), (45, .aload_n 0, 0, 0, 0), (46, .bipush 10, 0, 0, 0), (48, .iload_n 1, 0, 0, 0)]
def zm_c113_5 : List (Nat × zm_I) := [(49, .invokestatic 79, 0, 0, 0), (52, .anewarray 7, 5, 0, 0), (55, .dup_x1, 0, 0, 0), (56, .putfield 9, 4, 0, 0), (59, .areturn, 0, 0, 0)]
def zm_g113 (pc : Nat) : Option zm_I := cond (Nat.blt pc 30) (cond (Nat.blt pc 10) (zm_lk zm_c113_0 pc) (cond (Nat.blt pc 22) (zm_lk zm_c113_1 pc) (zm_lk zm_c113_2 pc))) (cond (Nat.blt pc 40) (zm_lk zm_c113_3 pc) (cond (Nat.blt pc 49) (zm_lk zm_c113_4 pc) (zm_lk zm_c113_5 pc)))
/-- java/util/Objects.checkIndex(II)I -/
def zm_c114_0 : List (Nat × zm_I) := [(0, .iload_n 0, 0, 0, 0), (1, .iload_n 1, 0, 0, 0), (2, .aconst_null, 0, 0, 0), (3, .invokestatic 105, 0, 0, 0), (6, .ireturn, 0, 0, 0)]
def zm_g114 (pc : Nat) : Option zm_I := zm_lk zm_c114_0 pc
/-- jdk/internal/util/Preconditions.checkIndex(IILjava/util/function/BiFunction;)I -/
def zm_c115_0 : List (Nat × zm_I) := [(0, .iload_n 0, 0, 0, 0), (1, .ifCond .lt 8, 0, 0, 0), (4, .iload_n 0, 0, 0, 0), (5, .iload_n 1, 0, 0, 0), (6, .if_icmp .lt 10, 0, 0, 0), (9, .aload_n 2, 0, 0, 0)]
def zm_c115_1 : List (Nat × zm_I) := [(10, .iload_n 0, 0, 0, 0), (11, .iload_n 1, 0, 0, 0), (12, .invokestatic 95, 0, 0, 0), (15, .athrow, 0, 0, 0), (16, .iload_n 0, 0, 0, 0), (17, .ireturn, 0, 0, 0)]
def zm_g115 (pc : Nat) : Option zm_I := cond (Nat.blt pc 10) (zm_lk zm_c115_0 pc) (zm_lk zm_c115_1 pc)
/-- jdk/internal/util/ArraysSupport.newLength(III)I -/
def zm_c116_0 : List (Nat × zm_I) := [(0, .iload_n 0, 0, 0, 0), (1, .iload_n 1, 0, 0, 0), (2, .iload_n 2, 0, 0, 0), (3, .invokestatic 194, 0, 0, 0), (6, .iadd, 0, 0, 0), (7, .istore_n 3, 0, 0, 0)]
def zm_c116_1 : List (Nat × zm_I) := [(8, .iconst 0, 0, 0, 0), (9, .iload_n 3, 0, 0, 0), (10, .if_icmp .ge 11, 0, 0, 0), (13, .iload_n 3, 0, 0, 0), (14, .ldc 200, 0, 0, 2147483639), (16, .if_icmp .gt 5, 0, 0, 0)]
def zm_c116_2 : List (Nat × zm_I) := [(19, .iload_n 3, 0, 0, 0), (20, .ireturn, 0, 0, 0), (21, .iload_n 0, 0, 0, 0), (22, .iload_n 1, 0, 0, 0), (23, .invokestatic 201, 0, 0, 0), (26, .ireturn, 0, 0, 0)]
def zm_g116 (pc : Nat) : Option zm_I := cond (Nat.blt pc 8) (zm_lk zm_c116_0 pc) (cond (Nat.blt pc 19) (zm_lk zm_c116_1 pc) (zm_lk zm_c116_2 pc))
/-- java/util/Arrays.copyOf([Ljava/lang/Object;I)[Ljava/lang/Object; -/
def zm_c117_0 : List (Nat × zm_I) := [(0, .aload_n 0, 0, 0, 0), (1, .iload_n 1, 0, 0, 0), (2, .aload_n 0, 0, 0, 0), (3, .invokevirtual 86, 0, 0, 0), (6, .invokestatic 300, 0, 0, 0), (9, .areturn, 0, 0, 0)]
def zm_g117 (pc : Nat) : Option zm_I := zm_lk zm_c117_0 pc
/-- java/util/Arrays.copyOf([Ljava/lang/Object;ILjava/lang/Class;)[Ljava/lang/Object; -/
def zm_c118_0 : List (Nat × zm_I) := [(0, .aload_n 2, 0, 0, 0), (3, .if_acmp .ne 10, 0, 0, 0), (6, .iload_n 1, 0, 0, 0), (7, .anewarray 2, 5, 0, 0), (10, .goto 14, 0, 0, 0), (13, .aload_n 2, 0, 0, 0)]
def zm_c118_1 : List (Nat × zm_I) := [(14, .invokevirtual 90, 0, 0, 0), (17, .iload_n 1, 0, 0, 0), (18, .invokestatic 95, 0, 0, 0), (24, .astore_n 3, 0, 0, 0), (25, .aload_n 0, 0, 0, 0), (26, .iconst 0, 0, 0, 0)]
def zm_c118_2 : List (Nat × zm_I) := [(27, .aload_n 3, 0, 0, 0), (28, .iconst 0, 0, 0, 0), (29, .aload_n 0, 0, 0, 0), (30, .arraylength, 0, 0, 0), (31, .iload_n 1, 0, 0, 0), (32, .invokestatic 304, 0, 0, 0)]
def zm_c118_3 : List (Nat × zm_I) := [(35, .invokestatic 150, 0, 0, 0), (38, .aload_n 3, 0, 0, 0), (39, .areturn, 0, 0, 0)]
def zm_g118 (pc : Nat) : Option zm_I := cond (Nat.blt pc 27) (cond (Nat.blt pc 14) (zm_lk zm_c118_0 pc) (zm_lk zm_c118_1 pc)) (cond (Nat.blt pc 35) (zm_lk zm_c118_2 pc) (zm_lk zm_c118_3 pc))
def zm_cd (mi pc : Nat) : Option zm_I := cond (Nat.blt mi 59) (cond (Nat.blt mi 29) (cond (Nat.blt mi 14) (cond (Nat.blt mi 7) (cond (Nat.blt mi 3) (cond (Nat.blt mi 1) (cond (Nat.beq mi 0) (zm_g0 pc) none) (cond (Nat.blt mi 2) (cond (Nat.beq mi 1) (zm_g1 pc) none) (cond (Nat.beq mi 2) (zm_g2 pc) none))) (cond (Nat.blt mi 5) (cond (Nat.blt mi 4) (cond (Nat.beq mi 3) (zm_g3 pc) none) (cond (Nat.beq mi 4) (zm_g4 pc) none)) (cond (Nat.blt mi 6) (cond (Nat.beq mi 5) (zm_g5 pc) none) (cond (Nat.beq mi 6) (zm_g6 pc) none)))) (cond (Nat.blt mi 10) (cond (Nat.blt mi 8) (cond (Nat.beq mi 7) (zm_g7 pc) none) (cond (Nat.blt mi 9) (cond (Nat.beq mi 8) (zm_g8 pc) none) (cond (Nat.beq mi 9) (zm_g9 pc) none))) (cond (Nat.blt mi 12) (cond (Nat.blt mi 11) (cond (Nat.beq mi 10) (zm_g10 pc) none) (cond (Nat.beq mi 11) (zm_g11 pc) none)) (cond (Nat.blt mi 13) (cond (Nat.beq mi 12) (zm_g12 pc) none) (cond (Nat.beq mi 13) (zm_g13 pc) none))))) (cond (Nat.blt mi 21) (cond (Nat.blt mi 17) (cond (Nat.blt mi 15) (cond (Nat.beq mi 14) (zm_g14 pc) none) (cond (Nat.blt mi 16) (cond (Nat.beq mi 15) (zm_g15 pc) none) (cond (Nat.beq mi 16) (zm_g16 pc) none))) (cond (Nat.blt mi 19) (cond (Nat.blt mi 18) (cond (Nat.beq mi 17) (zm_g17 pc) none) (cond (Nat.beq mi 18) (zm_g18 pc) none)) (cond (Nat.blt mi 20) (cond (Nat.beq mi 19) (zm_g19 pc) none) (cond (Nat.beq mi 20) (zm_g20 pc) none)))) (cond (Nat.blt mi 25) (cond (Nat.blt mi 23) (cond (Nat.blt mi 22) (cond (Nat.beq mi 21) (zm_g21 pc) none) (cond (Nat.beq mi 22) (zm_g22 pc) none)) (cond (Nat.blt mi 24) (cond (Nat.beq mi 23) (zm_g23 pc) none) (cond (Nat.beq mi 24) (zm_g24 pc) none))) (cond (Nat.blt mi 27) (cond (Nat.blt mi 26) (cond (Nat.beq mi 25) (zm_g25 pc) none) (cond (Nat.beq mi 26) (zm_g26 pc) none)) (cond (Nat.blt mi 28) (cond (Nat.beq mi 27) (zm_g27 pc) none) (cond (Nat.beq mi 28) (zm_g28 pc) none)))))) (cond (Nat.blt mi 44) (cond (Nat.blt mi 36) (cond (Nat.blt mi 32) (cond (Nat.blt mi 30) (cond (Nat.beq mi 29) (zm_g29 pc) none) (cond (Nat.blt mi 31) (cond (Nat.beq mi 30) (zm_g30 pc) none) (cond (Nat.beq mi 31) (zm_g31 pc) none))) (cond (Nat.blt mi 34) (cond (Nat.blt mi 33) (cond (Nat.beq mi 32) (zm_g32 pc) none) (cond (Nat.beq mi 33) (zm_g33 pc) none)) (cond (Nat.blt mi 35) (cond (Nat.beq mi 34) (zm_g34 pc) none) (cond (Nat.beq mi 35) (zm_g35 pc) none)))) (cond (Nat.blt mi 40) (cond (Nat.blt mi 38) (cond (Nat.blt mi 37) (cond (Nat.beq mi 36) (zm_g36 pc) none) (cond (Nat.beq mi 37) (zm_g37 pc) none)) (cond (Nat.blt mi 39) (cond (Nat.beq mi 38) (zm_g38 pc) none) (cond (Nat.beq mi 39) (zm_g39 pc) none))) (cond (Nat.blt mi 42) (cond (Nat.blt mi 41) (cond (Nat.beq mi 40) (zm_g40 pc) none) (cond (Nat.beq mi 41) (zm_g41 pc) none)) (cond (Nat.blt mi 43) (cond (Nat.beq mi 42) (zm_g42 pc) none) (cond (Nat.beq mi 43) (zm_g43 pc) none))))) (cond (Nat.blt mi 51) (cond (Nat.blt mi 47) (cond (Nat.blt mi 45) (cond (Nat.beq mi 44) (zm_g44 pc) none) (cond (Nat.blt mi 46) (cond (Nat.beq mi 45) (zm_g45 pc) none) (cond (Nat.beq mi 46) (zm_g46 pc) none))) (cond (Nat.blt mi 49) (cond (Nat.blt mi 48) (cond (Nat.beq mi 47) (zm_g47 pc) none) (cond (Nat.beq mi 48) (zm_g48 pc) none)) (cond (Nat.blt mi 50) (cond (Nat.beq mi 49) (zm_g49 pc) none) (cond (Nat.beq mi 50) (zm_g50 pc) none)))) (cond (Nat.blt mi 55) (cond (Nat.blt mi 53) (cond (Nat.blt mi 52) (cond (Nat.beq mi 51) (zm_g51 pc) none) (cond (Nat.beq mi 52) (zm_g52 pc) none)) (cond (Nat.blt mi 54) (cond (Nat.beq mi 53) (zm_g53 pc) none) (cond (Nat.beq mi 54) (zm_g54 pc) none))) (cond (Nat.blt mi 57) (cond (Nat.blt mi 56) (cond (Nat.beq mi 55) (zm_g55 pc) none) (cond (Nat.beq mi 56) (zm_g56 pc) none)) (cond (Nat.blt mi 58) (cond (Nat.beq mi 57) (zm_g57 pc) none) (cond (Nat.beq mi 58) (zm_g58 pc) none))))))) (cond (Nat.blt mi 89) (cond (Nat.blt mi 74) (cond (Nat.blt mi 66) (cond (Nat.blt mi 62) (cond (Nat.blt mi 60) (cond (Nat.beq mi 59) (zm_g59 pc) none) (cond (Nat.blt mi 61) (cond (Nat.beq mi 60) (zm_g60 pc) none) (cond (Nat.beq mi 61) (zm_g61 pc) none))) (cond (Nat.blt mi 64) (cond (Nat.blt mi 63) (cond (Nat.beq mi 62) (zm_g62 pc) none) (cond (Nat.beq mi 63) (zm_g63 pc) none)) (cond (Nat.blt mi 65) (cond (Nat.beq mi 64) (zm_g64 pc) none) (cond (Nat.beq mi 65) (zm_g65 pc) none)))) (cond (Nat.blt mi 70) (cond (Nat.blt mi 68) (cond (Nat.blt mi 67) (cond (Nat.beq mi 66) (zm_g66 pc) none) (cond (Nat.beq mi 67) (zm_g67 pc) none)) (cond (Nat.blt mi 69) (cond (Nat.beq mi 68) (zm_g68 pc) none) (cond (Nat.beq mi 69) (zm_g69 pc) none))) (cond (Nat.blt mi 72) (cond (Nat.blt mi 71) (cond (Nat.beq mi 70) (zm_g70 pc) none) (cond (Nat.beq mi 71) (zm_g71 pc) none)) (cond (Nat.blt mi 73) (cond (Nat.beq mi 72) (zm_g72 pc) none) (cond (Nat.beq mi 73) (zm_g73 pc) none))))) (cond (Nat.blt mi 81) (cond (Nat.blt mi 77) (cond (Nat.blt mi 75) (cond (Nat.beq mi 74) (zm_g74 pc) none) (cond (Nat.blt mi 76) (cond (Nat.beq mi 75) (zm_g75 pc) none) (cond (Nat.beq mi 76) (zm_g76 pc) none))) (cond (Nat.blt mi 79) (cond (Nat.blt mi 78) (cond (Nat.beq mi 77) (zm_g77 pc) none) (cond (Nat.beq mi 78) (zm_g78 pc) none)) (cond (Nat.blt mi 80) (cond (Nat.beq mi 79) (zm_g79 pc) none) (cond (Nat.beq mi 80) (zm_g80 pc) none)))) (cond (Nat.blt mi 85) (cond (Nat.blt mi 83) (cond (Nat.blt mi 82) (cond (Nat.beq mi 81) (zm_g81 pc) none) (cond (Nat.beq mi 82) (zm_g82 pc) none)) (cond (Nat.blt mi 84) (cond (Nat.beq mi 83) (zm_g83 pc) none) (cond (Nat.beq mi 84) (zm_g84 pc) none))) (cond (Nat.blt mi 87) (cond (Nat.blt mi 86) (cond (Nat.beq mi 85) (zm_g85 pc) none) (cond (Nat.beq mi 86) (zm_g86 pc) none)) (cond (Nat.blt mi 88) (cond (Nat.beq mi 87) (zm_g87 pc) none) (cond (Nat.beq mi 88) (zm_g88 pc) none)))))) (cond (Nat.blt mi 104) (cond (Nat.blt mi 96) (cond (Nat.blt mi 92) (cond (Nat.blt mi 90) (cond (Nat.beq mi 89) (zm_g89 pc) none) (cond (Nat.blt mi 91) (cond (Nat.beq mi 90) (zm_g90 pc) none) (cond (Nat.beq mi 91) (zm_g91 pc) none))) (cond (Nat.blt mi 94) (cond (Nat.blt mi 93) (cond (Nat.beq mi 92) (zm_g92 pc) none) (cond (Nat.beq mi 93) (zm_g93 pc) none)) (cond (Nat.blt mi 95) (cond (Nat.beq mi 94) (zm_g94 pc) none) (cond (Nat.beq mi 95) (zm_g95 pc) none)))) (cond (Nat.blt mi 100) (cond (Nat.blt mi 98) (cond (Nat.blt mi 97) (cond (Nat.beq mi 96) (zm_g96 pc) none) (cond (Nat.beq mi 97) (zm_g97 pc) none)) (cond (Nat.blt mi 99) (cond (Nat.beq mi 98) (zm_g98 pc) none) (cond (Nat.beq mi 99) (zm_g99 pc) none))) (cond (Nat.blt mi 102) (cond (Nat.blt mi 101) (cond (Nat.beq mi 100) (zm_g100 pc) none) (cond (Nat.beq mi 101) (zm_g101 pc) none)) (cond (Nat.blt mi 103) (cond (Nat.beq mi 102) (zm_g102 pc) none) (cond (Nat.beq mi 103) (zm_g103 pc) none))))) (cond (Nat.blt mi 111) (cond (Nat.blt mi 107) (cond (Nat.blt mi 105) (cond (Nat.beq mi 104) (zm_g104 pc) none) (cond (Nat.blt mi 106) (cond (Nat.beq mi 105) (zm_g105 pc) none) (cond (Nat.beq mi 106) (zm_g106 pc) none))) (cond (Nat.blt mi 109) (cond (Nat.blt mi 108) (cond (Nat.beq mi 107) (zm_g107 pc) none) (cond (Nat.beq mi 108) (zm_g108 pc) none)) (cond (Nat.blt mi 110) (cond (Nat.beq mi 109) (zm_g109 pc) none) (cond (Nat.beq mi 110) (zm_g110 pc) none)))) (cond (Nat.blt mi 115) (cond (Nat.blt mi 113) (cond (Nat.blt mi 112) (cond (Nat.beq mi 111) (zm_g111 pc) none) (cond (Nat.beq mi 112) (zm_g112 pc) none)) (cond (Nat.blt mi 114) (cond (Nat.beq mi 113) (zm_g113 pc) none) (cond (Nat.beq mi 114) (zm_g114 pc) none))) (cond (Nat.blt mi 117) (cond (Nat.blt mi 116) (cond (Nat.beq mi 115) (zm_g115 pc) none) (cond (Nat.beq mi 116) (zm_g116 pc) none)) (cond (Nat.blt mi 118) (cond (Nat.beq mi 117) (zm_g117 pc) none) (cond (Nat.beq mi 118) (zm_g118 pc) none)))))))
