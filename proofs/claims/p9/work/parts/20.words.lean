/-! THE TABLES' OWN ROWS, laid by wip/gen/gen.py: every instruction is as it stands in the code, and the words that it wants stand among the tables' -/
theorem zm_memT1 (i : Nat) {w : Cond} (h : tables_1_1[i]? = some w) : w ∈ zm_tb := List.mem_append_left _ (List.mem_append_right _ (List.mem_append_left _ (List.mem_of_getElem? h)))
theorem zm_memT2 (i : Nat) {w : Cond} (h : tables_1_2[i]? = some w) : w ∈ zm_tb := List.mem_append_left _ (List.mem_append_right _ (List.mem_append_right _ (List.mem_append_left _ (List.mem_of_getElem? h))))
theorem zm_memT3 (i : Nat) {w : Cond} (h : tables_1_3[i]? = some w) : w ∈ zm_tb := List.mem_append_left _ (List.mem_append_right _ (List.mem_append_right _ (List.mem_append_right _ (List.mem_append_left _ (List.mem_of_getElem? h)))))
theorem zm_memT4 (i : Nat) {w : Cond} (h : tables_1_4[i]? = some w) : w ∈ zm_tb := List.mem_append_left _ (List.mem_append_right _ (List.mem_append_right _ (List.mem_append_right _ (List.mem_append_right _ (List.mem_append_left _ (List.mem_of_getElem? h))))))
theorem zm_memT5 (i : Nat) {w : Cond} (h : tables_1_5[i]? = some w) : w ∈ zm_tb := List.mem_append_left _ (List.mem_append_right _ (List.mem_append_right _ (List.mem_append_right _ (List.mem_append_right _ (List.mem_append_right _ (List.mem_of_getElem? h))))))
theorem zm_memS (i : Nat) {w : Cond} (h : (k2_sels lw_privs)[i]? = some w) : w ∈ zm_tb := List.mem_append_left _ (List.mem_append_left _ (List.mem_of_getElem? h))
theorem zm_memE (i : Nat) {w : Cond} (h : zm_ex[i]? = some w) : w ∈ zm_tb := List.mem_append_right _ (List.mem_of_getElem? h)
theorem zm_okw_n {mi idx x y : Nat} {q : vw_C} (h : zm_cl[x]? = some q) (hf : (q.2.1 y).2.2.2 = false) : zm_okw mi idx x y := fun C T n h' => by
  have e := Option.some.inj (h.symm.trans h')
  subst e
  exact Or.inl hf
theorem zm_okw_f {mi idx x y : Nat} {q : vw_C} (h : zm_cl[x]? = some q) (h1 : (zm_mn mi).name = "<init>") (h2 : (q.2.1 y).1 = (zm_mn mi).cls) (h3 : Cond.fieldLink (zm_mn mi).cls idx (q.2.1 y).1 (q.2.1 y).2.1 (q.2.1 y).2.2.1 ∈ zm_tb) : zm_okw mi idx x y := fun C T n h' => by
  have e := Option.some.inj (h.symm.trans h')
  subst e
  exact Or.inr ⟨h1, h2, h3⟩
theorem zm_out0 {mi pc : Nat} (h : zm_hd mi = []) : zm_out mi pc := by
  intro q hq
  rw [h] at hq
  cases hq
theorem zw_0 : (Jvm.Cond.initialized "NeedMachineLaw") ∈ zm_tb := zm_memT1 0 rfl
theorem zw_1 : (Jvm.Cond.initialized "NeedMachine") ∈ zm_tb := zm_memT1 1 rfl
theorem zw_2 : (Jvm.Cond.initialized "NeedMachine$Text") ∈ zm_tb := zm_memT1 2 rfl
theorem zw_3 : (Jvm.Cond.initialized "NeedMachine$Store") ∈ zm_tb := zm_memT1 3 rfl
theorem zw_4 : (Jvm.Cond.initialized "NeedMachine$Value") ∈ zm_tb := zm_memT1 4 rfl
theorem zw_7 : (Jvm.Cond.initialized "java/util/ArrayList") ∈ zm_tb := zm_memT1 7 rfl
theorem zw_8 : (Jvm.Cond.initialized "NeedMachineModel") ∈ zm_tb := zm_memT1 8 rfl
theorem zw_12 : (Jvm.Cond.initialized "java/lang/IllegalArgumentException") ∈ zm_tb := zm_memT1 12 rfl
theorem zw_13 : (Jvm.Cond.initialized "java/lang/IllegalStateException") ∈ zm_tb := zm_memT1 13 rfl
theorem zw_14 : (Jvm.Cond.initialized "NeedMachine$Definition") ∈ zm_tb := zm_memT1 14 rfl
theorem zw_15 : (Jvm.Cond.initialized "NeedMachine$Expression") ∈ zm_tb := zm_memT1 15 rfl
theorem zw_16 : (Jvm.Cond.initialized "java/lang/Math") ∈ zm_tb := zm_memT1 16 rfl
theorem zw_17 : (Jvm.Cond.initialized "jdk/internal/util/ArraysSupport") ∈ zm_tb := zm_memT1 17 rfl
theorem zw_18 : (Jvm.Cond.initialized "java/util/Arrays") ∈ zm_tb := zm_memT1 18 rfl
theorem zw_19 : (Jvm.Cond.initialized "java/lang/System") ∈ zm_tb := zm_memT1 19 rfl
theorem zw_20 : (Jvm.Cond.initialized "java/util/Objects") ∈ zm_tb := zm_memT1 20 rfl
theorem zw_21 : (Jvm.Cond.initialized "jdk/internal/util/Preconditions") ∈ zm_tb := zm_memT1 21 rfl
theorem zw_22 : (Jvm.Cond.initialized "java/util/NoSuchElementException") ∈ zm_tb := zm_memT1 22 rfl
theorem zw_23 : (Jvm.Cond.initialized "NeedMachine$Closure") ∈ zm_tb := zm_memT1 23 rfl
theorem zw_24 : (Jvm.Cond.initialized "java/lang/UnsupportedOperationException") ∈ zm_tb := zm_memT1 24 rfl
theorem zw_25 : (Jvm.Cond.initialized "NeedMachine$Arguments") ∈ zm_tb := zm_memT1 25 rfl
theorem zw_26 : (Jvm.Cond.initialized "java/lang/ArithmeticException") ∈ zm_tb := zm_memT1 26 rfl
theorem zw_27 : (Jvm.Cond.classLink "NeedMachineLaw" (8 : Nat) "NeedMachine") ∈ zm_tb := zm_memT1 27 rfl
theorem zw_28 : (Jvm.Cond.instantiable "NeedMachine" (9 : Nat)) ∈ zm_tb := zm_memT1 28 rfl
theorem zw_29 : (Jvm.Cond.methodLink "NeedMachineLaw" (43 : Nat) ({ cls := "NeedMachine", name := "<init>", desc := "()V" } : Jvm.MethodName)) ∈ zm_tb := zm_memT1 29 rfl
theorem zw_30 : (Jvm.Cond.instanceMethod ({ cls := "NeedMachine", name := "<init>", desc := "()V" } : Jvm.MethodName)) ∈ zm_tb := zm_memT1 30 rfl
theorem zw_31 : (Jvm.Cond.code ({ cls := "NeedMachine", name := "<init>", desc := "()V" } : Jvm.MethodName) prog_1_method_1_code (1 : Nat) (Option.none : Option Jvm.ClassFile.FieldType)) ∈ zm_tb := zm_memT1 31 rfl
theorem zw_32 : (Jvm.Cond.methodLink "NeedMachine" (1 : Nat) ({ cls := "java/lang/Object", name := "<init>", desc := "()V" } : Jvm.MethodName)) ∈ zm_tb := zm_memT1 32 rfl
theorem zw_33 : (Jvm.Cond.instanceMethod ({ cls := "java/lang/Object", name := "<init>", desc := "()V" } : Jvm.MethodName)) ∈ zm_tb := zm_memT1 33 rfl
theorem zw_34 : (Jvm.Cond.code ({ cls := "java/lang/Object", name := "<init>", desc := "()V" } : Jvm.MethodName) object_method_1_code (1 : Nat) (Option.none : Option Jvm.ClassFile.FieldType)) ∈ zm_tb := zm_memT1 34 rfl
theorem zw_35 : (Jvm.Cond.classLink "NeedMachine" (7 : Nat) "NeedMachine$Text") ∈ zm_tb := zm_memT1 35 rfl
theorem zw_36 : (Jvm.Cond.instantiable "NeedMachine$Text" (8 : Nat)) ∈ zm_tb := zm_memT1 36 rfl
theorem zw_37 : (Jvm.Cond.methodLink "NeedMachine" (9 : Nat) ({ cls := "NeedMachine$Text", name := "<init>", desc := "()V" } : Jvm.MethodName)) ∈ zm_tb := zm_memT1 37 rfl
theorem zw_38 : (Jvm.Cond.instanceMethod ({ cls := "NeedMachine$Text", name := "<init>", desc := "()V" } : Jvm.MethodName)) ∈ zm_tb := zm_memT1 38 rfl
theorem zw_39 : (Jvm.Cond.code ({ cls := "NeedMachine$Text", name := "<init>", desc := "()V" } : Jvm.MethodName) prog_7_method_1_code (1 : Nat) (Option.none : Option Jvm.ClassFile.FieldType)) ∈ zm_tb := zm_memT1 39 rfl
theorem zw_40 : (Jvm.Cond.methodLink "NeedMachine$Text" (3 : Nat) ({ cls := "java/lang/Object", name := "<init>", desc := "()V" } : Jvm.MethodName)) ∈ zm_tb := zm_memT1 40 rfl
theorem zw_41 : (Jvm.Cond.fieldLink "NeedMachine$Text" (33 : Nat) "NeedMachine$Text" "length" "I") ∈ zm_tb := zm_memT1 41 rfl
theorem zw_42 : (Jvm.Cond.fieldLink "NeedMachine" (108 : Nat) "NeedMachine$Text" "length" "I") ∈ zm_tb := zm_memT1 42 rfl
theorem zw_43 : (Jvm.Cond.fieldLink "NeedMachine$Text" (9 : Nat) "NeedMachine$Text" "badPlace" "I") ∈ zm_tb := zm_memT1 43 rfl
theorem zw_44 : (Jvm.Cond.fieldLink "NeedMachine" (105 : Nat) "NeedMachine$Text" "badPlace" "I") ∈ zm_tb := zm_memT1 44 rfl
theorem zw_45 : (Jvm.Cond.fieldLink "NeedMachine$Text" (15 : Nat) "NeedMachine$Text" "characters" "[C") ∈ zm_tb := zm_memT1 45 rfl
theorem zw_46 : (Jvm.Cond.fieldLink "NeedMachine$Text" (19 : Nat) "NeedMachine$Text" "parameters" "[C") ∈ zm_tb := zm_memT1 46 rfl
theorem zw_47 : (Jvm.Cond.fieldLink "NeedMachine$Text" (63 : Nat) "NeedMachine$Text" "parametersRead" "I") ∈ zm_tb := zm_memT1 47 rfl
theorem zw_48 : (Jvm.Cond.fieldLink "NeedMachine$Text" (47 : Nat) "NeedMachine$Text" "end" "I") ∈ zm_tb := zm_memT1 48 rfl
theorem zw_49 : (Jvm.Cond.fieldLink "NeedMachine$Text" (44 : Nat) "NeedMachine$Text" "place" "I") ∈ zm_tb := zm_memT1 49 rfl
theorem zw_50 : (Jvm.Cond.fieldLink "NeedMachine$Text" (76 : Nat) "NeedMachine$Text" "owed" "I") ∈ zm_tb := zm_memT1 50 rfl
theorem zw_68 : (Jvm.Cond.arrayClass Jvm.ClassFile.FieldType.char) ∈ zm_tb := zm_memT1 68 rfl
theorem zw_69 : (Jvm.Cond.classLink "NeedMachine" (16 : Nat) "NeedMachine$Store") ∈ zm_tb := zm_memT1 69 rfl
theorem zw_70 : (Jvm.Cond.instantiable "NeedMachine$Store" (7 : Nat)) ∈ zm_tb := zm_memT1 70 rfl
theorem zw_71 : (Jvm.Cond.methodLink "NeedMachine" (18 : Nat) ({ cls := "NeedMachine$Store", name := "<init>", desc := "()V" } : Jvm.MethodName)) ∈ zm_tb := zm_memT1 71 rfl
theorem zw_72 : (Jvm.Cond.instanceMethod ({ cls := "NeedMachine$Store", name := "<init>", desc := "()V" } : Jvm.MethodName)) ∈ zm_tb := zm_memT1 72 rfl
theorem zw_73 : (Jvm.Cond.code ({ cls := "NeedMachine$Store", name := "<init>", desc := "()V" } : Jvm.MethodName) prog_6_method_1_code (1 : Nat) (Option.none : Option Jvm.ClassFile.FieldType)) ∈ zm_tb := zm_memT1 73 rfl
theorem zw_74 : (Jvm.Cond.methodLink "NeedMachine$Store" (3 : Nat) ({ cls := "java/lang/Object", name := "<init>", desc := "()V" } : Jvm.MethodName)) ∈ zm_tb := zm_memT1 74 rfl
theorem zw_75 : (Jvm.Cond.classLink "NeedMachine$Store" (9 : Nat) "NeedMachine$Value") ∈ zm_tb := zm_memT1 75 rfl
theorem zw_76 : (Jvm.Cond.instantiable "NeedMachine$Value" (5 : Nat)) ∈ zm_tb := zm_memT1 76 rfl
theorem zw_77 : (Jvm.Cond.methodLinkNest "NeedMachine$Store" (11 : Nat) ({ cls := "NeedMachine$Value", name := "<init>", desc := "()V" } : Jvm.MethodName) "NeedMachine") ∈ zm_tb := zm_memT1 77 rfl
theorem zw_78 : (Jvm.Cond.instanceMethod ({ cls := "NeedMachine$Value", name := "<init>", desc := "()V" } : Jvm.MethodName)) ∈ zm_tb := zm_memT1 78 rfl
theorem zw_79 : (Jvm.Cond.code ({ cls := "NeedMachine$Value", name := "<init>", desc := "()V" } : Jvm.MethodName) prog_8_method_1_code (1 : Nat) (Option.none : Option Jvm.ClassFile.FieldType)) ∈ zm_tb := zm_memT1 79 rfl
theorem zw_80 : (Jvm.Cond.methodLink "NeedMachine$Value" (1 : Nat) ({ cls := "java/lang/Object", name := "<init>", desc := "()V" } : Jvm.MethodName)) ∈ zm_tb := zm_memT1 80 rfl
theorem zw_81 : (Jvm.Cond.fieldLink "NeedMachine$Store" (18 : Nat) "NeedMachine$Value" "kind" "I") ∈ zm_tb := zm_memT1 81 rfl
theorem zw_82 : (Jvm.Cond.fieldLink "NeedMachine" (65 : Nat) "NeedMachine$Value" "kind" "I") ∈ zm_tb := zm_memT1 82 rfl
theorem zw_83 : (Jvm.Cond.fieldLink "NeedMachine$Store" (48 : Nat) "NeedMachine$Value" "number" "I") ∈ zm_tb := zm_memT1 83 rfl
theorem zw_84 : (Jvm.Cond.fieldLink "NeedMachine" (203 : Nat) "NeedMachine$Value" "number" "I") ∈ zm_tb := zm_memT1 84 rfl
theorem zw_85 : (Jvm.Cond.fieldLink "NeedMachine$Store" (51 : Nat) "NeedMachine$Value" "head" "LNeedMachine$Closure;") ∈ zm_tb := zm_memT1 85 rfl
theorem zw_86 : (Jvm.Cond.fieldLink "NeedMachine" (85 : Nat) "NeedMachine$Value" "head" "LNeedMachine$Closure;") ∈ zm_tb := zm_memT1 86 rfl
theorem zw_87 : (Jvm.Cond.fieldLink "NeedMachine$Store" (55 : Nat) "NeedMachine$Value" "tail" "LNeedMachine$Closure;") ∈ zm_tb := zm_memT1 87 rfl
theorem zw_88 : (Jvm.Cond.fieldLink "NeedMachine" (93 : Nat) "NeedMachine$Value" "tail" "LNeedMachine$Closure;") ∈ zm_tb := zm_memT1 88 rfl
theorem zw_89 : (Jvm.Cond.fieldLink "NeedMachine$Store" (58 : Nat) "NeedMachine$Value" "arguments" "LNeedMachine$Arguments;") ∈ zm_tb := zm_memT1 89 rfl
theorem zw_90 : (Jvm.Cond.fieldLink "NeedMachine" (206 : Nat) "NeedMachine$Value" "arguments" "LNeedMachine$Arguments;") ∈ zm_tb := zm_memT1 90 rfl
theorem zw_102 : (Jvm.Cond.classLink "NeedMachine$Store" (22 : Nat) "java/util/ArrayList") ∈ zm_tb := zm_memT1 102 rfl
theorem zw_103 : (Jvm.Cond.instantiable "java/util/ArrayList" (3 : Nat)) ∈ zm_tb := zm_memT1 103 rfl
theorem zw_104 : (Jvm.Cond.methodLink "NeedMachine$Store" (24 : Nat) ({ cls := "java/util/ArrayList", name := "<init>", desc := "()V" } : Jvm.MethodName)) ∈ zm_tb := zm_memT1 104 rfl
theorem zw_105 : (Jvm.Cond.instanceMethod ({ cls := "java/util/ArrayList", name := "<init>", desc := "()V" } : Jvm.MethodName)) ∈ zm_tb := zm_memT1 105 rfl
theorem zw_106 : (Jvm.Cond.code ({ cls := "java/util/ArrayList", name := "<init>", desc := "()V" } : Jvm.MethodName) prog_26_method_2_code (1 : Nat) (Option.none : Option Jvm.ClassFile.FieldType)) ∈ zm_tb := zm_memT1 106 rfl
theorem zw_107 : (Jvm.Cond.methodLink "java/util/ArrayList" (1 : Nat) ({ cls := "java/util/AbstractList", name := "<init>", desc := "()V" } : Jvm.MethodName)) ∈ zm_tb := zm_memT1 107 rfl
theorem zw_108 : (Jvm.Cond.instanceMethod ({ cls := "java/util/AbstractList", name := "<init>", desc := "()V" } : Jvm.MethodName)) ∈ zm_tb := zm_memT1 108 rfl
theorem zw_109 : (Jvm.Cond.code ({ cls := "java/util/AbstractList", name := "<init>", desc := "()V" } : Jvm.MethodName) prog_25_method_1_code (1 : Nat) (Option.none : Option Jvm.ClassFile.FieldType)) ∈ zm_tb := zm_memT1 109 rfl
theorem zw_110 : (Jvm.Cond.methodLink "java/util/AbstractList" (1 : Nat) ({ cls := "java/util/AbstractCollection", name := "<init>", desc := "()V" } : Jvm.MethodName)) ∈ zm_tb := zm_memT1 110 rfl
theorem zw_111 : (Jvm.Cond.instanceMethod ({ cls := "java/util/AbstractCollection", name := "<init>", desc := "()V" } : Jvm.MethodName)) ∈ zm_tb := zm_memT1 111 rfl
theorem zw_112 : (Jvm.Cond.code ({ cls := "java/util/AbstractCollection", name := "<init>", desc := "()V" } : Jvm.MethodName) prog_24_method_1_code (1 : Nat) (Option.none : Option Jvm.ClassFile.FieldType)) ∈ zm_tb := zm_memT1 112 rfl
theorem zw_113 : (Jvm.Cond.methodLink "java/util/AbstractCollection" (1 : Nat) ({ cls := "java/lang/Object", name := "<init>", desc := "()V" } : Jvm.MethodName)) ∈ zm_tb := zm_memT1 113 rfl
theorem zw_114 : (Jvm.Cond.fieldLink "java/util/ArrayList" (39 : Nat) "java/util/ArrayList" "DEFAULTCAPACITY_EMPTY_ELEMENTDATA" "[Ljava/lang/Object;") ∈ zm_tb := zm_memT1 114 rfl
theorem zw_116 : (Jvm.Cond.fieldLink "java/util/ArrayList" (9 : Nat) "java/util/ArrayList" "elementData" "[Ljava/lang/Object;") ∈ zm_tb := zm_memT1 116 rfl
theorem zw_117 : (Jvm.Cond.fieldLink "java/util/ArrayList" (48 : Nat) "java/util/ArrayList" "size" "I") ∈ zm_tb := zm_memT1 117 rfl
theorem zw_118 : (Jvm.Cond.fieldLink "java/util/AbstractList" (7 : Nat) "java/util/AbstractList" "modCount" "I") ∈ zm_tb := zm_memT1 118 rfl
theorem zw_119 : (Jvm.Cond.fieldLink "java/util/ArrayList" (63 : Nat) "java/util/ArrayList" "modCount" "I") ∈ zm_tb := zm_memT1 119 rfl
theorem zw_120 : (Jvm.Cond.sameField "java/util/ArrayList" "java/util/AbstractList" "modCount" "I") ∈ zm_tb := zm_memT1 120 rfl
theorem zw_128 : (Jvm.Cond.fieldLink "NeedMachine$Store" (12 : Nat) "NeedMachine$Store" "nil" "LNeedMachine$Value;") ∈ zm_tb := zm_memT1 128 rfl
theorem zw_129 : (Jvm.Cond.fieldLink "NeedMachine" (152 : Nat) "NeedMachine$Store" "nil" "LNeedMachine$Value;") ∈ zm_tb := zm_memT1 129 rfl
theorem zw_130 : (Jvm.Cond.fieldLink "NeedMachine$Store" (25 : Nat) "NeedMachine$Store" "values" "Ljava/util/ArrayList;") ∈ zm_tb := zm_memT1 130 rfl
theorem zw_131 : (Jvm.Cond.fieldLink "NeedMachine$Store" (29 : Nat) "NeedMachine$Store" "closures" "Ljava/util/ArrayList;") ∈ zm_tb := zm_memT1 131 rfl
theorem zw_132 : (Jvm.Cond.fieldLink "NeedMachine$Store" (32 : Nat) "NeedMachine$Store" "chains" "Ljava/util/ArrayList;") ∈ zm_tb := zm_memT1 132 rfl
theorem zw_133 : (Jvm.Cond.fieldLink "NeedMachine$Store" (35 : Nat) "NeedMachine$Store" "valuesUsed" "I") ∈ zm_tb := zm_memT1 133 rfl
theorem zw_134 : (Jvm.Cond.fieldLink "NeedMachine$Store" (38 : Nat) "NeedMachine$Store" "closuresUsed" "I") ∈ zm_tb := zm_memT1 134 rfl
theorem zw_135 : (Jvm.Cond.fieldLink "NeedMachine$Store" (41 : Nat) "NeedMachine$Store" "chainsUsed" "I") ∈ zm_tb := zm_memT1 135 rfl
theorem zw_151 : (Jvm.Cond.classLink "NeedMachine" (23 : Nat) "NeedMachine$Definition") ∈ zm_tb := zm_memT1 151 rfl
theorem zw_152 : (Jvm.Cond.arrayOver (Jvm.ClassFile.FieldType.object "NeedMachine$Definition")) ∈ zm_tb := zm_memT1 152 rfl
theorem zw_153 : (Jvm.Cond.fieldLink "NeedMachine" (10 : Nat) "NeedMachine" "text" "LNeedMachine$Text;") ∈ zm_tb := zm_memT1 153 rfl
theorem zw_154 : (Jvm.Cond.fieldLink "NeedMachine" (19 : Nat) "NeedMachine" "store" "LNeedMachine$Store;") ∈ zm_tb := zm_memT1 154 rfl
theorem zw_155 : (Jvm.Cond.fieldLink "NeedMachine" (25 : Nat) "NeedMachine" "definitions" "[LNeedMachine$Definition;") ∈ zm_tb := zm_memT1 155 rfl
theorem zw_156 : (Jvm.Cond.fieldLink "NeedMachine" (48 : Nat) "NeedMachine" "result" "LNeedMachine$Value;") ∈ zm_tb := zm_memT1 156 rfl
theorem zw_157 : (Jvm.Cond.fieldLink "NeedMachine" (55 : Nat) "NeedMachine" "calls" "I") ∈ zm_tb := zm_memT1 157 rfl
theorem zw_158 : (Jvm.Cond.fieldLink "NeedMachine" (115 : Nat) "NeedMachine" "callsOfAll" "I") ∈ zm_tb := zm_memT1 158 rfl
theorem zw_159 : (Jvm.Cond.fieldLink "NeedMachine" (118 : Nat) "NeedMachine" "forcedFirst" "I") ∈ zm_tb := zm_memT1 159 rfl
theorem zw_160 : (Jvm.Cond.fieldLink "NeedMachine" (121 : Nat) "NeedMachine" "forcedLater" "I") ∈ zm_tb := zm_memT1 160 rfl
theorem zw_161 : (Jvm.Cond.fieldLink "NeedMachine" (58 : Nat) "NeedMachine" "deepest" "I") ∈ zm_tb := zm_memT1 161 rfl
theorem zw_181 : (Jvm.Cond.methodLink "NeedMachineLaw" (75 : Nat) ({ cls := "NeedMachine", name := "count", desc := "(I)I" } : Jvm.MethodName)) ∈ zm_tb := zm_memT1 181 rfl
theorem zw_182 : (Jvm.Cond.instanceMethod ({ cls := "NeedMachine", name := "count", desc := "(I)I" } : Jvm.MethodName)) ∈ zm_tb := zm_memT1 182 rfl
theorem zw_183 : (Jvm.Cond.selects "NeedMachine" ({ cls := "NeedMachine", name := "count", desc := "(I)I" } : Jvm.MethodName) ({ cls := "NeedMachine", name := "count", desc := "(I)I" } : Jvm.MethodName)) ∈ zm_tb := zm_memT1 183 rfl
theorem zw_184 : (Jvm.Cond.code ({ cls := "NeedMachine", name := "count", desc := "(I)I" } : Jvm.MethodName) prog_1_method_9_code (2 : Nat) (Option.some Jvm.ClassFile.FieldType.int)) ∈ zm_tb := zm_memT1 184 rfl
theorem zw_185 : (Jvm.Cond.methodLink "NeedMachine" (111 : Nat) ({ cls := "NeedMachine", name := "countDefinitions", desc := "()I" } : Jvm.MethodName)) ∈ zm_tb := zm_memT1 185 rfl
theorem zw_187 : (Jvm.Cond.instanceMethod ({ cls := "NeedMachine", name := "countDefinitions", desc := "()I" } : Jvm.MethodName)) ∈ zm_tb := zm_memT1 187 rfl
theorem zw_188 : (Jvm.Cond.code ({ cls := "NeedMachine", name := "countDefinitions", desc := "()I" } : Jvm.MethodName) prog_1_method_10_code (6 : Nat) (Option.some Jvm.ClassFile.FieldType.int)) ∈ zm_tb := zm_memT1 188 rfl
theorem zw_189 : (Jvm.Cond.methodLink "NeedMachineLaw" (49 : Nat) ({ cls := "NeedMachineLaw", name := "type", desc := "(LNeedMachine;J[J)I" } : Jvm.MethodName)) ∈ zm_tb := zm_memT1 189 rfl
theorem zw_190 : (Jvm.Cond.static ({ cls := "NeedMachineLaw", name := "type", desc := "(LNeedMachine;J[J)I" } : Jvm.MethodName)) ∈ zm_tb := zm_memT1 190 rfl
theorem zw_191 : (Jvm.Cond.codeWith ({ cls := "NeedMachineLaw", name := "type", desc := "(LNeedMachine;J[J)I" } : Jvm.MethodName) method_3_code (5 : Nat) (Option.some Jvm.ClassFile.FieldType.int) [((0 : Nat), (9 : Nat), (12 : Nat), (13 : Nat)), ((0 : Nat), (9 : Nat), (16 : Nat), (15 : Nat))]) ∈ zm_tb := zm_memT1 191 rfl
theorem zw_192 : (Jvm.Cond.classLink "NeedMachineLaw" (13 : Nat) "java/lang/IllegalArgumentException") ∈ zm_tb := zm_memT1 192 rfl
theorem zw_193 : (Jvm.Cond.classLink "NeedMachineLaw" (15 : Nat) "java/lang/IllegalStateException") ∈ zm_tb := zm_memT1 193 rfl
theorem zw_194 : (Jvm.Cond.methodLink "NeedMachineLaw" (7 : Nat) ({ cls := "NeedMachine", name := "type", desc := "(J)I" } : Jvm.MethodName)) ∈ zm_tb := zm_memT1 194 rfl
theorem zw_195 : (Jvm.Cond.instanceMethod ({ cls := "NeedMachine", name := "type", desc := "(J)I" } : Jvm.MethodName)) ∈ zm_tb := zm_memT1 195 rfl
theorem zw_196 : (Jvm.Cond.selects "NeedMachine" ({ cls := "NeedMachine", name := "type", desc := "(J)I" } : Jvm.MethodName) ({ cls := "NeedMachine", name := "type", desc := "(J)I" } : Jvm.MethodName)) ∈ zm_tb := zm_memT1 196 rfl
theorem zw_197 : (Jvm.Cond.code ({ cls := "NeedMachine", name := "type", desc := "(J)I" } : Jvm.MethodName) prog_1_method_2_code (3 : Nat) (Option.some Jvm.ClassFile.FieldType.int)) ∈ zm_tb := zm_memT1 197 rfl
theorem zw_198 : (Jvm.Cond.methodLink "NeedMachine" (29 : Nat) ({ cls := "NeedMachine$Text", name := "add", desc := "(J)I" } : Jvm.MethodName)) ∈ zm_tb := zm_memT1 198 rfl
theorem zw_199 : (Jvm.Cond.instanceMethod ({ cls := "NeedMachine$Text", name := "add", desc := "(J)I" } : Jvm.MethodName)) ∈ zm_tb := zm_memT1 199 rfl
theorem zw_200 : (Jvm.Cond.selects "NeedMachine$Text" ({ cls := "NeedMachine$Text", name := "add", desc := "(J)I" } : Jvm.MethodName) ({ cls := "NeedMachine$Text", name := "add", desc := "(J)I" } : Jvm.MethodName)) ∈ zm_tb := zm_memT1 200 rfl
theorem zw_201 : (Jvm.Cond.code ({ cls := "NeedMachine$Text", name := "add", desc := "(J)I" } : Jvm.MethodName) prog_7_method_2_code (6 : Nat) (Option.some Jvm.ClassFile.FieldType.int)) ∈ zm_tb := zm_memT1 201 rfl
theorem zw_202 : (Jvm.Cond.methodLink "NeedMachine$Text" (22 : Nat) ({ cls := "NeedMachine$Text", name := "byteAt", desc := "(JI)I" } : Jvm.MethodName)) ∈ zm_tb := zm_memT1 202 rfl
theorem zw_203 : (Jvm.Cond.static ({ cls := "NeedMachine$Text", name := "byteAt", desc := "(JI)I" } : Jvm.MethodName)) ∈ zm_tb := zm_memT1 203 rfl
theorem zw_204 : (Jvm.Cond.code ({ cls := "NeedMachine$Text", name := "byteAt", desc := "(JI)I" } : Jvm.MethodName) prog_7_method_3_code (3 : Nat) (Option.some Jvm.ClassFile.FieldType.int)) ∈ zm_tb := zm_memT1 204 rfl
theorem zw_205 : (Jvm.Cond.classLink "NeedMachine$Text" (26 : Nat) "java/lang/IllegalArgumentException") ∈ zm_tb := zm_memT1 205 rfl
theorem zw_206 : (Jvm.Cond.instantiable "java/lang/IllegalArgumentException" (6 : Nat)) ∈ zm_tb := zm_memT1 206 rfl
theorem zw_207 : (Jvm.Cond.castable "java/lang/IllegalArgumentException" "java/lang/IllegalArgumentException") ∈ zm_tb := zm_memT1 207 rfl
theorem zw_248 : (Jvm.Cond.stringRef "NeedMachine$Text" (28 : Nat) "not a character of a text") ∈ zm_tb := zm_memT2 8 rfl
theorem zw_249 : (Jvm.Cond.methodLink "NeedMachine$Text" (30 : Nat) ({ cls := "java/lang/IllegalArgumentException", name := "<init>", desc := "(Ljava/lang/String;)V" } : Jvm.MethodName)) ∈ zm_tb := zm_memT2 9 rfl
theorem zw_275 : (Jvm.Cond.classLink "NeedMachine$Text" (36 : Nat) "java/lang/IllegalStateException") ∈ zm_tb := zm_memT2 35 rfl
theorem zw_276 : (Jvm.Cond.instantiable "java/lang/IllegalStateException" (6 : Nat)) ∈ zm_tb := zm_memT2 36 rfl
theorem zw_277 : (Jvm.Cond.castable "java/lang/IllegalStateException" "java/lang/IllegalStateException") ∈ zm_tb := zm_memT2 37 rfl
theorem zw_284 : (Jvm.Cond.stringRef "NeedMachine$Text" (38 : Nat) "the text would be too long") ∈ zm_tb := zm_memT2 44 rfl
theorem zw_285 : (Jvm.Cond.methodLink "NeedMachine$Text" (40 : Nat) ({ cls := "java/lang/IllegalStateException", name := "<init>", desc := "(Ljava/lang/String;)V" } : Jvm.MethodName)) ∈ zm_tb := zm_memT2 45 rfl
theorem zw_291 : (Jvm.Cond.methodLink "NeedMachineLaw" (55 : Nat) ({ cls := "NeedMachineLaw", name := "define", desc := "(LNeedMachine;[J)I" } : Jvm.MethodName)) ∈ zm_tb := zm_memT2 51 rfl
theorem zw_292 : (Jvm.Cond.static ({ cls := "NeedMachineLaw", name := "define", desc := "(LNeedMachine;[J)I" } : Jvm.MethodName)) ∈ zm_tb := zm_memT2 52 rfl
theorem zw_293 : (Jvm.Cond.codeWith ({ cls := "NeedMachineLaw", name := "define", desc := "(LNeedMachine;[J)I" } : Jvm.MethodName) method_4_code (3 : Nat) (Option.some Jvm.ClassFile.FieldType.int) [((0 : Nat), (8 : Nat), (11 : Nat), (13 : Nat))]) ∈ zm_tb := zm_memT2 53 rfl
theorem zw_294 : (Jvm.Cond.methodLink "NeedMachineLaw" (17 : Nat) ({ cls := "NeedMachine", name := "define", desc := "()I" } : Jvm.MethodName)) ∈ zm_tb := zm_memT2 54 rfl
theorem zw_295 : (Jvm.Cond.instanceMethod ({ cls := "NeedMachine", name := "define", desc := "()I" } : Jvm.MethodName)) ∈ zm_tb := zm_memT2 55 rfl
theorem zw_296 : (Jvm.Cond.selects "NeedMachine" ({ cls := "NeedMachine", name := "define", desc := "()I" } : Jvm.MethodName) ({ cls := "NeedMachine", name := "define", desc := "()I" } : Jvm.MethodName)) ∈ zm_tb := zm_memT2 56 rfl
theorem zw_297 : (Jvm.Cond.code ({ cls := "NeedMachine", name := "define", desc := "()I" } : Jvm.MethodName) prog_1_method_3_code (2 : Nat) (Option.some Jvm.ClassFile.FieldType.int)) ∈ zm_tb := zm_memT2 57 rfl
theorem zw_298 : (Jvm.Cond.methodLink "NeedMachine" (33 : Nat) ({ cls := "NeedMachine$Text", name := "readDefinition", desc := "()LNeedMachine$Definition;" } : Jvm.MethodName)) ∈ zm_tb := zm_memT2 58 rfl
theorem zw_299 : (Jvm.Cond.instanceMethod ({ cls := "NeedMachine$Text", name := "readDefinition", desc := "()LNeedMachine$Definition;" } : Jvm.MethodName)) ∈ zm_tb := zm_memT2 59 rfl
theorem zw_300 : (Jvm.Cond.selects "NeedMachine$Text" ({ cls := "NeedMachine$Text", name := "readDefinition", desc := "()LNeedMachine$Definition;" } : Jvm.MethodName) ({ cls := "NeedMachine$Text", name := "readDefinition", desc := "()LNeedMachine$Definition;" } : Jvm.MethodName)) ∈ zm_tb := zm_memT2 60 rfl
theorem zw_301 : (Jvm.Cond.code ({ cls := "NeedMachine$Text", name := "readDefinition", desc := "()LNeedMachine$Definition;" } : Jvm.MethodName) prog_7_method_4_code (2 : Nat) (Option.some (Jvm.ClassFile.FieldType.object "NeedMachine$Definition"))) ∈ zm_tb := zm_memT2 61 rfl
theorem zw_302 : (Jvm.Cond.methodLink "NeedMachine$Text" (41 : Nat) ({ cls := "NeedMachine$Text", name := "beginReading", desc := "()V" } : Jvm.MethodName)) ∈ zm_tb := zm_memT2 62 rfl
theorem zw_304 : (Jvm.Cond.instanceMethod ({ cls := "NeedMachine$Text", name := "beginReading", desc := "()V" } : Jvm.MethodName)) ∈ zm_tb := zm_memT2 64 rfl
theorem zw_305 : (Jvm.Cond.code ({ cls := "NeedMachine$Text", name := "beginReading", desc := "()V" } : Jvm.MethodName) prog_7_method_6_code (1 : Nat) (Option.none : Option Jvm.ClassFile.FieldType)) ∈ zm_tb := zm_memT2 65 rfl
theorem zw_306 : (Jvm.Cond.methodLink "NeedMachine$Text" (50 : Nat) ({ cls := "NeedMachine$Text", name := "isName", desc := "(C)Z" } : Jvm.MethodName)) ∈ zm_tb := zm_memT2 66 rfl
theorem zw_307 : (Jvm.Cond.static ({ cls := "NeedMachine$Text", name := "isName", desc := "(C)Z" } : Jvm.MethodName)) ∈ zm_tb := zm_memT2 67 rfl
theorem zw_308 : (Jvm.Cond.code ({ cls := "NeedMachine$Text", name := "isName", desc := "(C)Z" } : Jvm.MethodName) prog_7_method_16_code (1 : Nat) (Option.some Jvm.ClassFile.FieldType.boolean)) ∈ zm_tb := zm_memT2 68 rfl
theorem zw_309 : (Jvm.Cond.methodLink "NeedMachine$Text" (54 : Nat) ({ cls := "NeedMachine$Text", name := "refuseUnless", desc := "(Z)V" } : Jvm.MethodName)) ∈ zm_tb := zm_memT2 69 rfl
theorem zw_311 : (Jvm.Cond.instanceMethod ({ cls := "NeedMachine$Text", name := "refuseUnless", desc := "(Z)V" } : Jvm.MethodName)) ∈ zm_tb := zm_memT2 71 rfl
theorem zw_312 : (Jvm.Cond.code ({ cls := "NeedMachine$Text", name := "refuseUnless", desc := "(Z)V" } : Jvm.MethodName) prog_7_method_18_code (2 : Nat) (Option.none : Option Jvm.ClassFile.FieldType)) ∈ zm_tb := zm_memT2 72 rfl
theorem zw_313 : (Jvm.Cond.stringRef "NeedMachine$Text" (109 : Nat) "the text cannot be read") ∈ zm_tb := zm_memT2 73 rfl
theorem zw_314 : (Jvm.Cond.methodLink "NeedMachine$Text" (58 : Nat) ({ cls := "NeedMachine$Text", name := "readParameters", desc := "()V" } : Jvm.MethodName)) ∈ zm_tb := zm_memT2 74 rfl
theorem zw_316 : (Jvm.Cond.instanceMethod ({ cls := "NeedMachine$Text", name := "readParameters", desc := "()V" } : Jvm.MethodName)) ∈ zm_tb := zm_memT2 76 rfl
theorem zw_317 : (Jvm.Cond.code ({ cls := "NeedMachine$Text", name := "readParameters", desc := "()V" } : Jvm.MethodName) prog_7_method_7_code (1 : Nat) (Option.none : Option Jvm.ClassFile.FieldType)) ∈ zm_tb := zm_memT2 77 rfl
theorem zw_318 : (Jvm.Cond.methodLink "NeedMachine$Text" (73 : Nat) ({ cls := "NeedMachine$Text", name := "isNewParameter", desc := "(C)Z" } : Jvm.MethodName)) ∈ zm_tb := zm_memT2 78 rfl
theorem zw_320 : (Jvm.Cond.instanceMethod ({ cls := "NeedMachine$Text", name := "isNewParameter", desc := "(C)Z" } : Jvm.MethodName)) ∈ zm_tb := zm_memT2 80 rfl
theorem zw_321 : (Jvm.Cond.code ({ cls := "NeedMachine$Text", name := "isNewParameter", desc := "(C)Z" } : Jvm.MethodName) prog_7_method_13_code (2 : Nat) (Option.some Jvm.ClassFile.FieldType.boolean)) ∈ zm_tb := zm_memT2 81 rfl
theorem zw_322 : (Jvm.Cond.methodLink "NeedMachine$Text" (103 : Nat) ({ cls := "NeedMachine$Text", name := "parameterIndex", desc := "(C)I" } : Jvm.MethodName)) ∈ zm_tb := zm_memT2 82 rfl
theorem zw_324 : (Jvm.Cond.instanceMethod ({ cls := "NeedMachine$Text", name := "parameterIndex", desc := "(C)I" } : Jvm.MethodName)) ∈ zm_tb := zm_memT2 84 rfl
theorem zw_325 : (Jvm.Cond.code ({ cls := "NeedMachine$Text", name := "parameterIndex", desc := "(C)I" } : Jvm.MethodName) prog_7_method_14_code (3 : Nat) (Option.some Jvm.ClassFile.FieldType.int)) ∈ zm_tb := zm_memT2 85 rfl
theorem zw_326 : (Jvm.Cond.classLink "NeedMachine$Text" (61 : Nat) "NeedMachine$Definition") ∈ zm_tb := zm_memT2 86 rfl
theorem zw_327 : (Jvm.Cond.instantiable "NeedMachine$Definition" (3 : Nat)) ∈ zm_tb := zm_memT2 87 rfl
theorem zw_328 : (Jvm.Cond.methodLink "NeedMachine$Text" (66 : Nat) ({ cls := "NeedMachine$Text", name := "readToTheEnd", desc := "()LNeedMachine$Expression;" } : Jvm.MethodName)) ∈ zm_tb := zm_memT2 88 rfl
theorem zw_330 : (Jvm.Cond.instanceMethod ({ cls := "NeedMachine$Text", name := "readToTheEnd", desc := "()LNeedMachine$Expression;" } : Jvm.MethodName)) ∈ zm_tb := zm_memT2 90 rfl
theorem zw_331 : (Jvm.Cond.code ({ cls := "NeedMachine$Text", name := "readToTheEnd", desc := "()LNeedMachine$Expression;" } : Jvm.MethodName) prog_7_method_8_code (2 : Nat) (Option.some (Jvm.ClassFile.FieldType.object "NeedMachine$Expression"))) ∈ zm_tb := zm_memT2 91 rfl
theorem zw_332 : (Jvm.Cond.methodLink "NeedMachine$Text" (79 : Nat) ({ cls := "NeedMachine$Text", name := "readExpression", desc := "(I)LNeedMachine$Expression;" } : Jvm.MethodName)) ∈ zm_tb := zm_memT2 92 rfl
theorem zw_334 : (Jvm.Cond.instanceMethod ({ cls := "NeedMachine$Text", name := "readExpression", desc := "(I)LNeedMachine$Expression;" } : Jvm.MethodName)) ∈ zm_tb := zm_memT2 94 rfl
theorem zw_335 : (Jvm.Cond.code ({ cls := "NeedMachine$Text", name := "readExpression", desc := "(I)LNeedMachine$Expression;" } : Jvm.MethodName) prog_7_method_9_code (7 : Nat) (Option.some (Jvm.ClassFile.FieldType.object "NeedMachine$Expression"))) ∈ zm_tb := zm_memT2 95 rfl
theorem zw_336 : (Jvm.Cond.methodLink "NeedMachine$Text" (83 : Nat) ({ cls := "NeedMachine$Text", name := "canStand", desc := "(CI)Z" } : Jvm.MethodName)) ∈ zm_tb := zm_memT2 96 rfl
theorem zw_338 : (Jvm.Cond.instanceMethod ({ cls := "NeedMachine$Text", name := "canStand", desc := "(CI)Z" } : Jvm.MethodName)) ∈ zm_tb := zm_memT2 98 rfl
theorem zw_339 : (Jvm.Cond.code ({ cls := "NeedMachine$Text", name := "canStand", desc := "(CI)Z" } : Jvm.MethodName) prog_7_method_11_code (4 : Nat) (Option.some Jvm.ClassFile.FieldType.boolean)) ∈ zm_tb := zm_memT2 99 rfl
theorem zw_340 : (Jvm.Cond.methodLink "NeedMachine$Text" (87 : Nat) ({ cls := "NeedMachine$Text", name := "partsOf", desc := "(C)I" } : Jvm.MethodName)) ∈ zm_tb := zm_memT2 100 rfl
theorem zw_341 : (Jvm.Cond.static ({ cls := "NeedMachine$Text", name := "partsOf", desc := "(C)I" } : Jvm.MethodName)) ∈ zm_tb := zm_memT2 101 rfl
theorem zw_342 : (Jvm.Cond.code ({ cls := "NeedMachine$Text", name := "partsOf", desc := "(C)I" } : Jvm.MethodName) prog_7_method_17_code (1 : Nat) (Option.some Jvm.ClassFile.FieldType.int)) ∈ zm_tb := zm_memT2 102 rfl
theorem zw_343 : (Jvm.Cond.methodLink "NeedMachine$Text" (106 : Nat) ({ cls := "NeedMachine$Text", name := "isLeaf", desc := "(C)Z" } : Jvm.MethodName)) ∈ zm_tb := zm_memT2 103 rfl
theorem zw_345 : (Jvm.Cond.instanceMethod ({ cls := "NeedMachine$Text", name := "isLeaf", desc := "(C)Z" } : Jvm.MethodName)) ∈ zm_tb := zm_memT2 105 rfl
theorem zw_346 : (Jvm.Cond.code ({ cls := "NeedMachine$Text", name := "isLeaf", desc := "(C)Z" } : Jvm.MethodName) prog_7_method_12_code (2 : Nat) (Option.some Jvm.ClassFile.FieldType.boolean)) ∈ zm_tb := zm_memT2 106 rfl
theorem zw_347 : (Jvm.Cond.methodLink "NeedMachine$Text" (100 : Nat) ({ cls := "NeedMachine$Text", name := "isDigit", desc := "(C)Z" } : Jvm.MethodName)) ∈ zm_tb := zm_memT2 107 rfl
theorem zw_348 : (Jvm.Cond.static ({ cls := "NeedMachine$Text", name := "isDigit", desc := "(C)Z" } : Jvm.MethodName)) ∈ zm_tb := zm_memT2 108 rfl
theorem zw_349 : (Jvm.Cond.code ({ cls := "NeedMachine$Text", name := "isDigit", desc := "(C)Z" } : Jvm.MethodName) prog_7_method_15_code (1 : Nat) (Option.some Jvm.ClassFile.FieldType.boolean)) ∈ zm_tb := zm_memT2 109 rfl
theorem zw_350 : (Jvm.Cond.methodLink "NeedMachine$Text" (91 : Nat) ({ cls := "NeedMachine$Text", name := "readLeaf", desc := "(C)LNeedMachine$Expression;" } : Jvm.MethodName)) ∈ zm_tb := zm_memT2 110 rfl
theorem zw_352 : (Jvm.Cond.instanceMethod ({ cls := "NeedMachine$Text", name := "readLeaf", desc := "(C)LNeedMachine$Expression;" } : Jvm.MethodName)) ∈ zm_tb := zm_memT2 112 rfl
theorem zw_353 : (Jvm.Cond.code ({ cls := "NeedMachine$Text", name := "readLeaf", desc := "(C)LNeedMachine$Expression;" } : Jvm.MethodName) prog_7_method_10_code (3 : Nat) (Option.some (Jvm.ClassFile.FieldType.object "NeedMachine$Expression"))) ∈ zm_tb := zm_memT2 113 rfl
theorem zw_354 : (Jvm.Cond.classLink "NeedMachine$Text" (95 : Nat) "NeedMachine$Expression") ∈ zm_tb := zm_memT2 114 rfl
theorem zw_355 : (Jvm.Cond.instantiable "NeedMachine$Expression" (5 : Nat)) ∈ zm_tb := zm_memT2 115 rfl
theorem zw_356 : (Jvm.Cond.methodLink "NeedMachine$Text" (97 : Nat) ({ cls := "NeedMachine$Expression", name := "<init>", desc := "(CILNeedMachine$Expression;LNeedMachine$Expression;LNeedMachine$Expression;)V" } : Jvm.MethodName)) ∈ zm_tb := zm_memT2 116 rfl
theorem zw_357 : (Jvm.Cond.instanceMethod ({ cls := "NeedMachine$Expression", name := "<init>", desc := "(CILNeedMachine$Expression;LNeedMachine$Expression;LNeedMachine$Expression;)V" } : Jvm.MethodName)) ∈ zm_tb := zm_memT2 117 rfl
theorem zw_358 : (Jvm.Cond.code ({ cls := "NeedMachine$Expression", name := "<init>", desc := "(CILNeedMachine$Expression;LNeedMachine$Expression;LNeedMachine$Expression;)V" } : Jvm.MethodName) prog_5_method_1_code (6 : Nat) (Option.none : Option Jvm.ClassFile.FieldType)) ∈ zm_tb := zm_memT2 118 rfl
theorem zw_359 : (Jvm.Cond.methodLink "NeedMachine$Expression" (1 : Nat) ({ cls := "java/lang/Object", name := "<init>", desc := "()V" } : Jvm.MethodName)) ∈ zm_tb := zm_memT2 119 rfl
theorem zw_360 : (Jvm.Cond.fieldLink "NeedMachine$Expression" (7 : Nat) "NeedMachine$Expression" "sign" "C") ∈ zm_tb := zm_memT2 120 rfl
theorem zw_361 : (Jvm.Cond.fieldLink "NeedMachine" (139 : Nat) "NeedMachine$Expression" "sign" "C") ∈ zm_tb := zm_memT2 121 rfl
theorem zw_362 : (Jvm.Cond.fieldLink "NeedMachine$Expression" (13 : Nat) "NeedMachine$Expression" "index" "I") ∈ zm_tb := zm_memT2 122 rfl
theorem zw_363 : (Jvm.Cond.fieldLink "NeedMachine" (145 : Nat) "NeedMachine$Expression" "index" "I") ∈ zm_tb := zm_memT2 123 rfl
theorem zw_364 : (Jvm.Cond.fieldLink "NeedMachine$Expression" (17 : Nat) "NeedMachine$Expression" "first" "LNeedMachine$Expression;") ∈ zm_tb := zm_memT2 124 rfl
theorem zw_365 : (Jvm.Cond.fieldLink "NeedMachine" (163 : Nat) "NeedMachine$Expression" "first" "LNeedMachine$Expression;") ∈ zm_tb := zm_memT2 125 rfl
theorem zw_366 : (Jvm.Cond.fieldLink "NeedMachine$Expression" (21 : Nat) "NeedMachine$Expression" "second" "LNeedMachine$Expression;") ∈ zm_tb := zm_memT2 126 rfl
theorem zw_367 : (Jvm.Cond.fieldLink "NeedMachine" (171 : Nat) "NeedMachine$Expression" "second" "LNeedMachine$Expression;") ∈ zm_tb := zm_memT2 127 rfl
theorem zw_368 : (Jvm.Cond.fieldLink "NeedMachine$Expression" (24 : Nat) "NeedMachine$Expression" "third" "LNeedMachine$Expression;") ∈ zm_tb := zm_memT2 128 rfl
theorem zw_369 : (Jvm.Cond.fieldLink "NeedMachine" (224 : Nat) "NeedMachine$Expression" "third" "LNeedMachine$Expression;") ∈ zm_tb := zm_memT2 129 rfl
theorem zw_381 : (Jvm.Cond.methodLink "NeedMachine$Text" (70 : Nat) ({ cls := "NeedMachine$Definition", name := "<init>", desc := "(IILNeedMachine$Expression;)V" } : Jvm.MethodName)) ∈ zm_tb := zm_memT2 141 rfl
theorem zw_382 : (Jvm.Cond.instanceMethod ({ cls := "NeedMachine$Definition", name := "<init>", desc := "(IILNeedMachine$Expression;)V" } : Jvm.MethodName)) ∈ zm_tb := zm_memT2 142 rfl
theorem zw_383 : (Jvm.Cond.code ({ cls := "NeedMachine$Definition", name := "<init>", desc := "(IILNeedMachine$Expression;)V" } : Jvm.MethodName) prog_4_method_1_code (4 : Nat) (Option.none : Option Jvm.ClassFile.FieldType)) ∈ zm_tb := zm_memT2 143 rfl
theorem zw_384 : (Jvm.Cond.methodLink "NeedMachine$Definition" (1 : Nat) ({ cls := "java/lang/Object", name := "<init>", desc := "()V" } : Jvm.MethodName)) ∈ zm_tb := zm_memT2 144 rfl
theorem zw_385 : (Jvm.Cond.fieldLink "NeedMachine$Definition" (7 : Nat) "NeedMachine$Definition" "name" "I") ∈ zm_tb := zm_memT2 145 rfl
theorem zw_386 : (Jvm.Cond.fieldLink "NeedMachine" (37 : Nat) "NeedMachine$Definition" "name" "I") ∈ zm_tb := zm_memT2 146 rfl
theorem zw_387 : (Jvm.Cond.fieldLink "NeedMachine$Definition" (13 : Nat) "NeedMachine$Definition" "parameters" "I") ∈ zm_tb := zm_memT2 147 rfl
theorem zw_388 : (Jvm.Cond.fieldLink "NeedMachine" (41 : Nat) "NeedMachine$Definition" "parameters" "I") ∈ zm_tb := zm_memT2 148 rfl
theorem zw_389 : (Jvm.Cond.fieldLink "NeedMachine$Definition" (16 : Nat) "NeedMachine$Definition" "body" "LNeedMachine$Expression;") ∈ zm_tb := zm_memT2 149 rfl
theorem zw_390 : (Jvm.Cond.fieldLink "NeedMachine" (221 : Nat) "NeedMachine$Definition" "body" "LNeedMachine$Expression;") ∈ zm_tb := zm_memT2 150 rfl
theorem zw_398 : (Jvm.Cond.methodLink "NeedMachineLaw" (59 : Nat) ({ cls := "NeedMachineLaw", name := "ask", desc := "(LNeedMachine;[J)I" } : Jvm.MethodName)) ∈ zm_tb := zm_memT2 158 rfl
theorem zw_399 : (Jvm.Cond.static ({ cls := "NeedMachineLaw", name := "ask", desc := "(LNeedMachine;[J)I" } : Jvm.MethodName)) ∈ zm_tb := zm_memT2 159 rfl
theorem zw_400 : (Jvm.Cond.codeWith ({ cls := "NeedMachineLaw", name := "ask", desc := "(LNeedMachine;[J)I" } : Jvm.MethodName) method_5_code (3 : Nat) (Option.some Jvm.ClassFile.FieldType.int) [((0 : Nat), (8 : Nat), (11 : Nat), (13 : Nat)), ((0 : Nat), (8 : Nat), (14 : Nat), (24 : Nat)), ((0 : Nat), (8 : Nat), (17 : Nat), (26 : Nat)), ((0 : Nat), (8 : Nat), (20 : Nat), (15 : Nat)), ((0 : Nat), (8 : Nat), (23 : Nat), (28 : Nat))]) ∈ zm_tb := zm_memT2 160 rfl
theorem zw_401 : (Jvm.Cond.classLink "NeedMachineLaw" (24 : Nat) "java/util/NoSuchElementException") ∈ zm_tb := zm_memT2 161 rfl
theorem zw_402 : (Jvm.Cond.classLink "NeedMachineLaw" (26 : Nat) "java/lang/ArithmeticException") ∈ zm_tb := zm_memT2 162 rfl
theorem zw_403 : (Jvm.Cond.classLink "NeedMachineLaw" (28 : Nat) "java/lang/UnsupportedOperationException") ∈ zm_tb := zm_memT2 163 rfl
theorem zw_404 : (Jvm.Cond.methodLink "NeedMachineLaw" (21 : Nat) ({ cls := "NeedMachine", name := "ask", desc := "()I" } : Jvm.MethodName)) ∈ zm_tb := zm_memT2 164 rfl
theorem zw_405 : (Jvm.Cond.instanceMethod ({ cls := "NeedMachine", name := "ask", desc := "()I" } : Jvm.MethodName)) ∈ zm_tb := zm_memT2 165 rfl
theorem zw_406 : (Jvm.Cond.selects "NeedMachine" ({ cls := "NeedMachine", name := "ask", desc := "()I" } : Jvm.MethodName) ({ cls := "NeedMachine", name := "ask", desc := "()I" } : Jvm.MethodName)) ∈ zm_tb := zm_memT2 166 rfl
theorem zw_407 : (Jvm.Cond.code ({ cls := "NeedMachine", name := "ask", desc := "()I" } : Jvm.MethodName) prog_1_method_4_code (2 : Nat) (Option.some Jvm.ClassFile.FieldType.int)) ∈ zm_tb := zm_memT2 167 rfl
theorem zw_408 : (Jvm.Cond.methodLink "NeedMachine" (44 : Nat) ({ cls := "NeedMachine$Text", name := "readAsked", desc := "()LNeedMachine$Expression;" } : Jvm.MethodName)) ∈ zm_tb := zm_memT2 168 rfl
theorem zw_409 : (Jvm.Cond.instanceMethod ({ cls := "NeedMachine$Text", name := "readAsked", desc := "()LNeedMachine$Expression;" } : Jvm.MethodName)) ∈ zm_tb := zm_memT2 169 rfl
theorem zw_410 : (Jvm.Cond.selects "NeedMachine$Text" ({ cls := "NeedMachine$Text", name := "readAsked", desc := "()LNeedMachine$Expression;" } : Jvm.MethodName) ({ cls := "NeedMachine$Text", name := "readAsked", desc := "()LNeedMachine$Expression;" } : Jvm.MethodName)) ∈ zm_tb := zm_memT2 170 rfl
theorem zw_411 : (Jvm.Cond.code ({ cls := "NeedMachine$Text", name := "readAsked", desc := "()LNeedMachine$Expression;" } : Jvm.MethodName) prog_7_method_5_code (1 : Nat) (Option.some (Jvm.ClassFile.FieldType.object "NeedMachine$Expression"))) ∈ zm_tb := zm_memT2 171 rfl
theorem zw_412 : (Jvm.Cond.methodLink "NeedMachine" (52 : Nat) ({ cls := "NeedMachine$Store", name := "takeAllBack", desc := "()V" } : Jvm.MethodName)) ∈ zm_tb := zm_memT2 172 rfl
theorem zw_413 : (Jvm.Cond.instanceMethod ({ cls := "NeedMachine$Store", name := "takeAllBack", desc := "()V" } : Jvm.MethodName)) ∈ zm_tb := zm_memT2 173 rfl
theorem zw_414 : (Jvm.Cond.selects "NeedMachine$Store" ({ cls := "NeedMachine$Store", name := "takeAllBack", desc := "()V" } : Jvm.MethodName) ({ cls := "NeedMachine$Store", name := "takeAllBack", desc := "()V" } : Jvm.MethodName)) ∈ zm_tb := zm_memT2 174 rfl
theorem zw_415 : (Jvm.Cond.code ({ cls := "NeedMachine$Store", name := "takeAllBack", desc := "()V" } : Jvm.MethodName) prog_6_method_2_code (1 : Nat) (Option.none : Option Jvm.ClassFile.FieldType)) ∈ zm_tb := zm_memT2 175 rfl
theorem zw_416 : (Jvm.Cond.methodLink "NeedMachine" (61 : Nat) ({ cls := "NeedMachine", name := "work", desc := "(LNeedMachine$Expression;LNeedMachine$Arguments;I)LNeedMachine$Value;" } : Jvm.MethodName)) ∈ zm_tb := zm_memT2 176 rfl
theorem zw_418 : (Jvm.Cond.instanceMethod ({ cls := "NeedMachine", name := "work", desc := "(LNeedMachine$Expression;LNeedMachine$Arguments;I)LNeedMachine$Value;" } : Jvm.MethodName)) ∈ zm_tb := zm_memT2 178 rfl
theorem zw_419 : (Jvm.Cond.code ({ cls := "NeedMachine", name := "work", desc := "(LNeedMachine$Expression;LNeedMachine$Arguments;I)LNeedMachine$Value;" } : Jvm.MethodName) prog_1_method_12_code (4 : Nat) (Option.some (Jvm.ClassFile.FieldType.object "NeedMachine$Value"))) ∈ zm_tb := zm_memT2 179 rfl
theorem zw_420 : (Jvm.Cond.classLink "NeedMachine" (128 : Nat) "java/lang/IllegalStateException") ∈ zm_tb := zm_memT2 180 rfl
theorem zw_421 : (Jvm.Cond.stringRef "NeedMachine" (130 : Nat) "working out stands too deep") ∈ zm_tb := zm_memT2 181 rfl
theorem zw_422 : (Jvm.Cond.methodLink "NeedMachine" (132 : Nat) ({ cls := "java/lang/IllegalStateException", name := "<init>", desc := "(Ljava/lang/String;)V" } : Jvm.MethodName)) ∈ zm_tb := zm_memT2 182 rfl
theorem zw_423 : (Jvm.Cond.methodLink "NeedMachine" (133 : Nat) ({ cls := "java/lang/Math", name := "max", desc := "(II)I" } : Jvm.MethodName)) ∈ zm_tb := zm_memT2 183 rfl
theorem zw_424 : (Jvm.Cond.static ({ cls := "java/lang/Math", name := "max", desc := "(II)I" } : Jvm.MethodName)) ∈ zm_tb := zm_memT2 184 rfl
theorem zw_425 : (Jvm.Cond.code ({ cls := "java/lang/Math", name := "max", desc := "(II)I" } : Jvm.MethodName) prog_18_method_65_code (2 : Nat) (Option.some Jvm.ClassFile.FieldType.int)) ∈ zm_tb := zm_memT2 185 rfl
theorem zw_426 : (Jvm.Cond.methodLink "NeedMachine" (148 : Nat) ({ cls := "NeedMachine$Store", name := "makeNumber", desc := "(I)LNeedMachine$Value;" } : Jvm.MethodName)) ∈ zm_tb := zm_memT2 186 rfl
theorem zw_427 : (Jvm.Cond.instanceMethod ({ cls := "NeedMachine$Store", name := "makeNumber", desc := "(I)LNeedMachine$Value;" } : Jvm.MethodName)) ∈ zm_tb := zm_memT2 187 rfl
theorem zw_428 : (Jvm.Cond.selects "NeedMachine$Store" ({ cls := "NeedMachine$Store", name := "makeNumber", desc := "(I)LNeedMachine$Value;" } : Jvm.MethodName) ({ cls := "NeedMachine$Store", name := "makeNumber", desc := "(I)LNeedMachine$Value;" } : Jvm.MethodName)) ∈ zm_tb := zm_memT2 188 rfl
theorem zw_429 : (Jvm.Cond.code ({ cls := "NeedMachine$Store", name := "makeNumber", desc := "(I)LNeedMachine$Value;" } : Jvm.MethodName) prog_6_method_3_code (3 : Nat) (Option.some (Jvm.ClassFile.FieldType.object "NeedMachine$Value"))) ∈ zm_tb := zm_memT2 189 rfl
theorem zw_430 : (Jvm.Cond.methodLink "NeedMachine$Store" (44 : Nat) ({ cls := "NeedMachine$Store", name := "nextValue", desc := "(I)LNeedMachine$Value;" } : Jvm.MethodName)) ∈ zm_tb := zm_memT2 190 rfl
theorem zw_432 : (Jvm.Cond.instanceMethod ({ cls := "NeedMachine$Store", name := "nextValue", desc := "(I)LNeedMachine$Value;" } : Jvm.MethodName)) ∈ zm_tb := zm_memT2 192 rfl
theorem zw_433 : (Jvm.Cond.code ({ cls := "NeedMachine$Store", name := "nextValue", desc := "(I)LNeedMachine$Value;" } : Jvm.MethodName) prog_6_method_8_code (3 : Nat) (Option.some (Jvm.ClassFile.FieldType.object "NeedMachine$Value"))) ∈ zm_tb := zm_memT2 193 rfl
theorem zw_434 : (Jvm.Cond.methodLink "NeedMachine$Store" (62 : Nat) ({ cls := "java/util/ArrayList", name := "size", desc := "()I" } : Jvm.MethodName)) ∈ zm_tb := zm_memT2 194 rfl
theorem zw_435 : (Jvm.Cond.instanceMethod ({ cls := "java/util/ArrayList", name := "size", desc := "()I" } : Jvm.MethodName)) ∈ zm_tb := zm_memT2 195 rfl
theorem zw_436 : (Jvm.Cond.selects "java/util/ArrayList" ({ cls := "java/util/ArrayList", name := "size", desc := "()I" } : Jvm.MethodName) ({ cls := "java/util/ArrayList", name := "size", desc := "()I" } : Jvm.MethodName)) ∈ zm_tb := zm_memT2 196 rfl
theorem zw_437 : (Jvm.Cond.code ({ cls := "java/util/ArrayList", name := "size", desc := "()I" } : Jvm.MethodName) prog_26_method_8_code (1 : Nat) (Option.some Jvm.ClassFile.FieldType.int)) ∈ zm_tb := zm_memT2 197 rfl
theorem zw_438 : (Jvm.Cond.methodLink "NeedMachine$Store" (69 : Nat) ({ cls := "java/util/ArrayList", name := "add", desc := "(Ljava/lang/Object;)Z" } : Jvm.MethodName)) ∈ zm_tb := zm_memT2 198 rfl
theorem zw_439 : (Jvm.Cond.instanceMethod ({ cls := "java/util/ArrayList", name := "add", desc := "(Ljava/lang/Object;)Z" } : Jvm.MethodName)) ∈ zm_tb := zm_memT2 199 rfl
theorem zw_440 : (Jvm.Cond.selects "java/util/ArrayList" ({ cls := "java/util/ArrayList", name := "add", desc := "(Ljava/lang/Object;)Z" } : Jvm.MethodName) ({ cls := "java/util/ArrayList", name := "add", desc := "(Ljava/lang/Object;)Z" } : Jvm.MethodName)) ∈ zm_tb := zm_memT2 200 rfl
theorem zw_441 : (Jvm.Cond.code ({ cls := "java/util/ArrayList", name := "add", desc := "(Ljava/lang/Object;)Z" } : Jvm.MethodName) prog_26_method_25_code (2 : Nat) (Option.some Jvm.ClassFile.FieldType.boolean)) ∈ zm_tb := zm_memT2 201 rfl
theorem zw_442 : (Jvm.Cond.methodLink "java/util/ArrayList" (131 : Nat) ({ cls := "java/util/ArrayList", name := "add", desc := "(Ljava/lang/Object;[Ljava/lang/Object;I)V" } : Jvm.MethodName)) ∈ zm_tb := zm_memT2 202 rfl
theorem zw_444 : (Jvm.Cond.instanceMethod ({ cls := "java/util/ArrayList", name := "add", desc := "(Ljava/lang/Object;[Ljava/lang/Object;I)V" } : Jvm.MethodName)) ∈ zm_tb := zm_memT2 204 rfl
theorem zw_445 : (Jvm.Cond.code ({ cls := "java/util/ArrayList", name := "add", desc := "(Ljava/lang/Object;[Ljava/lang/Object;I)V" } : Jvm.MethodName) prog_26_method_24_code (4 : Nat) (Option.none : Option Jvm.ClassFile.FieldType)) ∈ zm_tb := zm_memT2 205 rfl
theorem zw_446 : (Jvm.Cond.methodLink "java/util/ArrayList" (129 : Nat) ({ cls := "java/util/ArrayList", name := "grow", desc := "()[Ljava/lang/Object;" } : Jvm.MethodName)) ∈ zm_tb := zm_memT2 206 rfl
theorem zw_448 : (Jvm.Cond.instanceMethod ({ cls := "java/util/ArrayList", name := "grow", desc := "()[Ljava/lang/Object;" } : Jvm.MethodName)) ∈ zm_tb := zm_memT2 208 rfl
theorem zw_449 : (Jvm.Cond.code ({ cls := "java/util/ArrayList", name := "grow", desc := "()[Ljava/lang/Object;" } : Jvm.MethodName) prog_26_method_7_code (1 : Nat) (Option.some (Jvm.ClassFile.FieldType.array (Jvm.ClassFile.FieldType.object "java/lang/Object")))) ∈ zm_tb := zm_memT2 209 rfl
theorem zw_450 : (Jvm.Cond.methodLink "java/util/ArrayList" (69 : Nat) ({ cls := "java/util/ArrayList", name := "grow", desc := "(I)[Ljava/lang/Object;" } : Jvm.MethodName)) ∈ zm_tb := zm_memT2 210 rfl
theorem zw_452 : (Jvm.Cond.instanceMethod ({ cls := "java/util/ArrayList", name := "grow", desc := "(I)[Ljava/lang/Object;" } : Jvm.MethodName)) ∈ zm_tb := zm_memT2 212 rfl
theorem zw_453 : (Jvm.Cond.code ({ cls := "java/util/ArrayList", name := "grow", desc := "(I)[Ljava/lang/Object;" } : Jvm.MethodName) prog_26_method_6_code (4 : Nat) (Option.some (Jvm.ClassFile.FieldType.array (Jvm.ClassFile.FieldType.object "java/lang/Object")))) ∈ zm_tb := zm_memT2 213 rfl
theorem zw_454 : (Jvm.Cond.methodLink "java/util/ArrayList" (73 : Nat) ({ cls := "jdk/internal/util/ArraysSupport", name := "newLength", desc := "(III)I" } : Jvm.MethodName)) ∈ zm_tb := zm_memT2 214 rfl
theorem zw_455 : (Jvm.Cond.static ({ cls := "jdk/internal/util/ArraysSupport", name := "newLength", desc := "(III)I" } : Jvm.MethodName)) ∈ zm_tb := zm_memT2 215 rfl
theorem zw_456 : (Jvm.Cond.code ({ cls := "jdk/internal/util/ArraysSupport", name := "newLength", desc := "(III)I" } : Jvm.MethodName) prog_34_method_27_code (4 : Nat) (Option.some Jvm.ClassFile.FieldType.int)) ∈ zm_tb := zm_memT2 216 rfl
theorem zw_457 : (Jvm.Cond.methodLink "jdk/internal/util/ArraysSupport" (194 : Nat) ({ cls := "java/lang/Math", name := "max", desc := "(II)I" } : Jvm.MethodName)) ∈ zm_tb := zm_memT2 217 rfl
theorem zw_458 : (Jvm.Cond.constant "jdk/internal/util/ArraysSupport" (200 : Nat) (2147483639 : Int32)) ∈ zm_tb := zm_memT2 218 rfl
theorem zw_462 : (Jvm.Cond.methodLink "java/util/ArrayList" (66 : Nat) ({ cls := "java/util/Arrays", name := "copyOf", desc := "([Ljava/lang/Object;I)[Ljava/lang/Object;" } : Jvm.MethodName)) ∈ zm_tb := zm_memT2 222 rfl
theorem zw_463 : (Jvm.Cond.static ({ cls := "java/util/Arrays", name := "copyOf", desc := "([Ljava/lang/Object;I)[Ljava/lang/Object;" } : Jvm.MethodName)) ∈ zm_tb := zm_memT2 223 rfl
theorem zw_464 : (Jvm.Cond.code ({ cls := "java/util/Arrays", name := "copyOf", desc := "([Ljava/lang/Object;I)[Ljava/lang/Object;" } : Jvm.MethodName) prog_27_method_119_code (2 : Nat) (Option.some (Jvm.ClassFile.FieldType.array (Jvm.ClassFile.FieldType.object "java/lang/Object")))) ∈ zm_tb := zm_memT2 224 rfl
theorem zw_465 : (Jvm.Cond.methodLink "java/util/Arrays" (86 : Nat) ({ cls := "java/lang/Object", name := "getClass", desc := "()Ljava/lang/Class;" } : Jvm.MethodName)) ∈ zm_tb := zm_memT2 225 rfl
theorem zw_466 : (Jvm.Cond.instanceMethod ({ cls := "java/lang/Object", name := "getClass", desc := "()Ljava/lang/Class;" } : Jvm.MethodName)) ∈ zm_tb := zm_memT2 226 rfl
theorem zw_483 : (Jvm.Cond.native ({ cls := "java/lang/Object", name := "getClass", desc := "()Ljava/lang/Class;" } : Jvm.MethodName)) ∈ zm_tb := zm_memT3 3 rfl
theorem zw_484 : (Jvm.Cond.methodLink "java/util/Arrays" (300 : Nat) ({ cls := "java/util/Arrays", name := "copyOf", desc := "([Ljava/lang/Object;ILjava/lang/Class;)[Ljava/lang/Object;" } : Jvm.MethodName)) ∈ zm_tb := zm_memT3 4 rfl
theorem zw_485 : (Jvm.Cond.static ({ cls := "java/util/Arrays", name := "copyOf", desc := "([Ljava/lang/Object;ILjava/lang/Class;)[Ljava/lang/Object;" } : Jvm.MethodName)) ∈ zm_tb := zm_memT3 5 rfl
theorem zw_486 : (Jvm.Cond.code ({ cls := "java/util/Arrays", name := "copyOf", desc := "([Ljava/lang/Object;ILjava/lang/Class;)[Ljava/lang/Object;" } : Jvm.MethodName) prog_27_method_120_code (4 : Nat) (Option.some (Jvm.ClassFile.FieldType.array (Jvm.ClassFile.FieldType.object "java/lang/Object")))) ∈ zm_tb := zm_memT3 6 rfl
theorem zw_487 : (Jvm.Cond.classLink "java/util/Arrays" (110 : Nat) "[Ljava/lang/Object;") ∈ zm_tb := zm_memT3 7 rfl
theorem zw_488 : (Jvm.Cond.arrayOver (Jvm.ClassFile.FieldType.object "java/lang/Object")) ∈ zm_tb := zm_memT3 8 rfl
theorem zw_489 : (Jvm.Cond.classLink "java/util/Arrays" (2 : Nat) "java/lang/Object") ∈ zm_tb := zm_memT3 9 rfl
theorem zw_490 : (Jvm.Cond.methodLink "java/util/Arrays" (304 : Nat) ({ cls := "java/lang/Math", name := "min", desc := "(II)I" } : Jvm.MethodName)) ∈ zm_tb := zm_memT3 10 rfl
theorem zw_491 : (Jvm.Cond.static ({ cls := "java/lang/Math", name := "min", desc := "(II)I" } : Jvm.MethodName)) ∈ zm_tb := zm_memT3 11 rfl
theorem zw_492 : (Jvm.Cond.code ({ cls := "java/lang/Math", name := "min", desc := "(II)I" } : Jvm.MethodName) prog_18_method_69_code (2 : Nat) (Option.some Jvm.ClassFile.FieldType.int)) ∈ zm_tb := zm_memT3 12 rfl
theorem zw_493 : (Jvm.Cond.methodLink "java/util/Arrays" (150 : Nat) ({ cls := "java/lang/System", name := "arraycopy", desc := "(Ljava/lang/Object;ILjava/lang/Object;II)V" } : Jvm.MethodName)) ∈ zm_tb := zm_memT3 13 rfl
theorem zw_494 : (Jvm.Cond.static ({ cls := "java/lang/System", name := "arraycopy", desc := "(Ljava/lang/Object;ILjava/lang/Object;II)V" } : Jvm.MethodName)) ∈ zm_tb := zm_memT3 14 rfl
theorem zw_495 : (Jvm.Cond.native ({ cls := "java/lang/System", name := "arraycopy", desc := "(Ljava/lang/Object;ILjava/lang/Object;II)V" } : Jvm.MethodName)) ∈ zm_tb := zm_memT3 15 rfl
theorem zw_496 : (Jvm.Cond.methodLink "java/util/ArrayList" (79 : Nat) ({ cls := "java/lang/Math", name := "max", desc := "(II)I" } : Jvm.MethodName)) ∈ zm_tb := zm_memT3 16 rfl
theorem zw_497 : (Jvm.Cond.classLink "java/util/ArrayList" (7 : Nat) "java/lang/Object") ∈ zm_tb := zm_memT3 17 rfl
theorem zw_498 : (Jvm.Cond.methodLink "NeedMachine$Store" (73 : Nat) ({ cls := "java/util/ArrayList", name := "get", desc := "(I)Ljava/lang/Object;" } : Jvm.MethodName)) ∈ zm_tb := zm_memT3 18 rfl
theorem zw_499 : (Jvm.Cond.instanceMethod ({ cls := "java/util/ArrayList", name := "get", desc := "(I)Ljava/lang/Object;" } : Jvm.MethodName)) ∈ zm_tb := zm_memT3 19 rfl
theorem zw_500 : (Jvm.Cond.selects "java/util/ArrayList" ({ cls := "java/util/ArrayList", name := "get", desc := "(I)Ljava/lang/Object;" } : Jvm.MethodName) ({ cls := "java/util/ArrayList", name := "get", desc := "(I)Ljava/lang/Object;" } : Jvm.MethodName)) ∈ zm_tb := zm_memT3 20 rfl
theorem zw_501 : (Jvm.Cond.code ({ cls := "java/util/ArrayList", name := "get", desc := "(I)Ljava/lang/Object;" } : Jvm.MethodName) prog_26_method_20_code (2 : Nat) (Option.some (Jvm.ClassFile.FieldType.object "java/lang/Object"))) ∈ zm_tb := zm_memT3 21 rfl
theorem zw_502 : (Jvm.Cond.methodLink "java/util/ArrayList" (118 : Nat) ({ cls := "java/util/Objects", name := "checkIndex", desc := "(II)I" } : Jvm.MethodName)) ∈ zm_tb := zm_memT3 22 rfl
theorem zw_503 : (Jvm.Cond.static ({ cls := "java/util/Objects", name := "checkIndex", desc := "(II)I" } : Jvm.MethodName)) ∈ zm_tb := zm_memT3 23 rfl
theorem zw_504 : (Jvm.Cond.code ({ cls := "java/util/Objects", name := "checkIndex", desc := "(II)I" } : Jvm.MethodName) prog_31_method_17_code (2 : Nat) (Option.some Jvm.ClassFile.FieldType.int)) ∈ zm_tb := zm_memT3 24 rfl
theorem zw_505 : (Jvm.Cond.methodLink "java/util/Objects" (105 : Nat) ({ cls := "jdk/internal/util/Preconditions", name := "checkIndex", desc := "(IILjava/util/function/BiFunction;)I" } : Jvm.MethodName)) ∈ zm_tb := zm_memT3 25 rfl
theorem zw_506 : (Jvm.Cond.static ({ cls := "jdk/internal/util/Preconditions", name := "checkIndex", desc := "(IILjava/util/function/BiFunction;)I" } : Jvm.MethodName)) ∈ zm_tb := zm_memT3 26 rfl
theorem zw_507 : (Jvm.Cond.code ({ cls := "jdk/internal/util/Preconditions", name := "checkIndex", desc := "(IILjava/util/function/BiFunction;)I" } : Jvm.MethodName) prog_35_method_11_code (3 : Nat) (Option.some Jvm.ClassFile.FieldType.int)) ∈ zm_tb := zm_memT3 27 rfl
theorem zw_508 : (Jvm.Cond.methodLink "java/util/ArrayList" (123 : Nat) ({ cls := "java/util/ArrayList", name := "elementData", desc := "(I)Ljava/lang/Object;" } : Jvm.MethodName)) ∈ zm_tb := zm_memT3 28 rfl
theorem zw_509 : (Jvm.Cond.instanceMethod ({ cls := "java/util/ArrayList", name := "elementData", desc := "(I)Ljava/lang/Object;" } : Jvm.MethodName)) ∈ zm_tb := zm_memT3 29 rfl
theorem zw_510 : (Jvm.Cond.selects "java/util/ArrayList" ({ cls := "java/util/ArrayList", name := "elementData", desc := "(I)Ljava/lang/Object;" } : Jvm.MethodName) ({ cls := "java/util/ArrayList", name := "elementData", desc := "(I)Ljava/lang/Object;" } : Jvm.MethodName)) ∈ zm_tb := zm_memT3 30 rfl
theorem zw_511 : (Jvm.Cond.code ({ cls := "java/util/ArrayList", name := "elementData", desc := "(I)Ljava/lang/Object;" } : Jvm.MethodName) prog_26_method_18_code (2 : Nat) (Option.some (Jvm.ClassFile.FieldType.object "java/lang/Object"))) ∈ zm_tb := zm_memT3 31 rfl
theorem zw_512 : (Jvm.Cond.methodLink "NeedMachine" (155 : Nat) ({ cls := "NeedMachine", name := "argumentAt", desc := "(LNeedMachine$Arguments;I)LNeedMachine$Closure;" } : Jvm.MethodName)) ∈ zm_tb := zm_memT3 32 rfl
theorem zw_513 : (Jvm.Cond.static ({ cls := "NeedMachine", name := "argumentAt", desc := "(LNeedMachine$Arguments;I)LNeedMachine$Closure;" } : Jvm.MethodName)) ∈ zm_tb := zm_memT3 33 rfl
theorem zw_514 : (Jvm.Cond.code ({ cls := "NeedMachine", name := "argumentAt", desc := "(LNeedMachine$Arguments;I)LNeedMachine$Closure;" } : Jvm.MethodName) prog_1_method_22_code (3 : Nat) (Option.some (Jvm.ClassFile.FieldType.object "NeedMachine$Closure"))) ∈ zm_tb := zm_memT3 34 rfl
theorem zw_515 : (Jvm.Cond.stringRef "NeedMachine" (265 : Nat) "the parameter has no argument") ∈ zm_tb := zm_memT3 35 rfl
theorem zw_516 : (Jvm.Cond.methodLink "NeedMachine" (89 : Nat) ({ cls := "NeedMachine", name := "force", desc := "(LNeedMachine$Closure;I)LNeedMachine$Value;" } : Jvm.MethodName)) ∈ zm_tb := zm_memT3 36 rfl
theorem zw_518 : (Jvm.Cond.instanceMethod ({ cls := "NeedMachine", name := "force", desc := "(LNeedMachine$Closure;I)LNeedMachine$Value;" } : Jvm.MethodName)) ∈ zm_tb := zm_memT3 38 rfl
theorem zw_519 : (Jvm.Cond.code ({ cls := "NeedMachine", name := "force", desc := "(LNeedMachine$Closure;I)LNeedMachine$Value;" } : Jvm.MethodName) prog_1_method_19_code (4 : Nat) (Option.some (Jvm.ClassFile.FieldType.object "NeedMachine$Value"))) ∈ zm_tb := zm_memT3 39 rfl
theorem zw_520 : (Jvm.Cond.methodLink "NeedMachine" (241 : Nat) ({ cls := "NeedMachine", name := "mustBeWorkedOut", desc := "(LNeedMachine$Closure;)LNeedMachine$Value;" } : Jvm.MethodName)) ∈ zm_tb := zm_memT3 40 rfl
theorem zw_521 : (Jvm.Cond.static ({ cls := "NeedMachine", name := "mustBeWorkedOut", desc := "(LNeedMachine$Closure;)LNeedMachine$Value;" } : Jvm.MethodName)) ∈ zm_tb := zm_memT3 41 rfl
theorem zw_522 : (Jvm.Cond.code ({ cls := "NeedMachine", name := "mustBeWorkedOut", desc := "(LNeedMachine$Closure;)LNeedMachine$Value;" } : Jvm.MethodName) prog_1_method_23_code (1 : Nat) (Option.some (Jvm.ClassFile.FieldType.object "NeedMachine$Value"))) ∈ zm_tb := zm_memT3 42 rfl
theorem zw_523 : (Jvm.Cond.stringRef "NeedMachine" (267 : Nat) "the closure needs itself") ∈ zm_tb := zm_memT3 43 rfl
theorem zw_524 : (Jvm.Cond.methodLink "NeedMachine" (159 : Nat) ({ cls := "NeedMachine", name := "workName", desc := "(II)LNeedMachine$Value;" } : Jvm.MethodName)) ∈ zm_tb := zm_memT3 44 rfl
theorem zw_526 : (Jvm.Cond.instanceMethod ({ cls := "NeedMachine", name := "workName", desc := "(II)LNeedMachine$Value;" } : Jvm.MethodName)) ∈ zm_tb := zm_memT3 46 rfl
theorem zw_527 : (Jvm.Cond.code ({ cls := "NeedMachine", name := "workName", desc := "(II)LNeedMachine$Value;" } : Jvm.MethodName) prog_1_method_13_code (4 : Nat) (Option.some (Jvm.ClassFile.FieldType.object "NeedMachine$Value"))) ∈ zm_tb := zm_memT3 47 rfl
theorem zw_528 : (Jvm.Cond.methodLink "NeedMachine" (101 : Nat) ({ cls := "NeedMachine", name := "definitionOf", desc := "(I)LNeedMachine$Definition;" } : Jvm.MethodName)) ∈ zm_tb := zm_memT3 48 rfl
theorem zw_530 : (Jvm.Cond.instanceMethod ({ cls := "NeedMachine", name := "definitionOf", desc := "(I)LNeedMachine$Definition;" } : Jvm.MethodName)) ∈ zm_tb := zm_memT3 50 rfl
theorem zw_531 : (Jvm.Cond.code ({ cls := "NeedMachine", name := "definitionOf", desc := "(I)LNeedMachine$Definition;" } : Jvm.MethodName) prog_1_method_21_code (3 : Nat) (Option.some (Jvm.ClassFile.FieldType.object "NeedMachine$Definition"))) ∈ zm_tb := zm_memT3 51 rfl
theorem zw_532 : (Jvm.Cond.classLink "NeedMachine" (70 : Nat) "java/util/NoSuchElementException") ∈ zm_tb := zm_memT3 52 rfl
theorem zw_533 : (Jvm.Cond.instantiable "java/util/NoSuchElementException" (6 : Nat)) ∈ zm_tb := zm_memT3 53 rfl
theorem zw_534 : (Jvm.Cond.castable "java/util/NoSuchElementException" "java/util/NoSuchElementException") ∈ zm_tb := zm_memT3 54 rfl
theorem zw_541 : (Jvm.Cond.stringRef "NeedMachine" (257 : Nat) "the name has no definition") ∈ zm_tb := zm_memT3 61 rfl
theorem zw_542 : (Jvm.Cond.methodLink "NeedMachine" (74 : Nat) ({ cls := "java/util/NoSuchElementException", name := "<init>", desc := "(Ljava/lang/String;)V" } : Jvm.MethodName)) ∈ zm_tb := zm_memT3 62 rfl
theorem zw_548 : (Jvm.Cond.methodLink "NeedMachine" (190 : Nat) ({ cls := "NeedMachine", name := "call", desc := "(LNeedMachine$Definition;LNeedMachine$Arguments;I)LNeedMachine$Value;" } : Jvm.MethodName)) ∈ zm_tb := zm_memT3 68 rfl
theorem zw_550 : (Jvm.Cond.instanceMethod ({ cls := "NeedMachine", name := "call", desc := "(LNeedMachine$Definition;LNeedMachine$Arguments;I)LNeedMachine$Value;" } : Jvm.MethodName)) ∈ zm_tb := zm_memT3 70 rfl
theorem zw_551 : (Jvm.Cond.code ({ cls := "NeedMachine", name := "call", desc := "(LNeedMachine$Definition;LNeedMachine$Arguments;I)LNeedMachine$Value;" } : Jvm.MethodName) prog_1_method_15_code (4 : Nat) (Option.some (Jvm.ClassFile.FieldType.object "NeedMachine$Value"))) ∈ zm_tb := zm_memT3 71 rfl
theorem zw_552 : (Jvm.Cond.stringRef "NeedMachine" (219 : Nat) "too many calls in one asking") ∈ zm_tb := zm_memT3 72 rfl
theorem zw_553 : (Jvm.Cond.methodLink "NeedMachine" (194 : Nat) ({ cls := "NeedMachine$Store", name := "makeFunction", desc := "(ILNeedMachine$Arguments;)LNeedMachine$Value;" } : Jvm.MethodName)) ∈ zm_tb := zm_memT3 73 rfl
theorem zw_554 : (Jvm.Cond.instanceMethod ({ cls := "NeedMachine$Store", name := "makeFunction", desc := "(ILNeedMachine$Arguments;)LNeedMachine$Value;" } : Jvm.MethodName)) ∈ zm_tb := zm_memT3 74 rfl
theorem zw_555 : (Jvm.Cond.selects "NeedMachine$Store" ({ cls := "NeedMachine$Store", name := "makeFunction", desc := "(ILNeedMachine$Arguments;)LNeedMachine$Value;" } : Jvm.MethodName) ({ cls := "NeedMachine$Store", name := "makeFunction", desc := "(ILNeedMachine$Arguments;)LNeedMachine$Value;" } : Jvm.MethodName)) ∈ zm_tb := zm_memT3 75 rfl
theorem zw_556 : (Jvm.Cond.code ({ cls := "NeedMachine$Store", name := "makeFunction", desc := "(ILNeedMachine$Arguments;)LNeedMachine$Value;" } : Jvm.MethodName) prog_6_method_5_code (4 : Nat) (Option.some (Jvm.ClassFile.FieldType.object "NeedMachine$Value"))) ∈ zm_tb := zm_memT3 76 rfl
theorem zw_557 : (Jvm.Cond.methodLink "NeedMachine" (167 : Nat) ({ cls := "NeedMachine", name := "closureOf", desc := "(LNeedMachine$Expression;LNeedMachine$Arguments;)LNeedMachine$Closure;" } : Jvm.MethodName)) ∈ zm_tb := zm_memT3 77 rfl
theorem zw_559 : (Jvm.Cond.instanceMethod ({ cls := "NeedMachine", name := "closureOf", desc := "(LNeedMachine$Expression;LNeedMachine$Arguments;)LNeedMachine$Closure;" } : Jvm.MethodName)) ∈ zm_tb := zm_memT3 79 rfl
theorem zw_560 : (Jvm.Cond.code ({ cls := "NeedMachine", name := "closureOf", desc := "(LNeedMachine$Expression;LNeedMachine$Arguments;)LNeedMachine$Closure;" } : Jvm.MethodName) prog_1_method_20_code (3 : Nat) (Option.some (Jvm.ClassFile.FieldType.object "NeedMachine$Closure"))) ∈ zm_tb := zm_memT3 80 rfl
theorem zw_561 : (Jvm.Cond.methodLink "NeedMachine" (254 : Nat) ({ cls := "NeedMachine$Store", name := "makeClosure", desc := "(LNeedMachine$Expression;LNeedMachine$Arguments;)LNeedMachine$Closure;" } : Jvm.MethodName)) ∈ zm_tb := zm_memT3 81 rfl
theorem zw_562 : (Jvm.Cond.instanceMethod ({ cls := "NeedMachine$Store", name := "makeClosure", desc := "(LNeedMachine$Expression;LNeedMachine$Arguments;)LNeedMachine$Closure;" } : Jvm.MethodName)) ∈ zm_tb := zm_memT3 82 rfl
theorem zw_563 : (Jvm.Cond.selects "NeedMachine$Store" ({ cls := "NeedMachine$Store", name := "makeClosure", desc := "(LNeedMachine$Expression;LNeedMachine$Arguments;)LNeedMachine$Closure;" } : Jvm.MethodName) ({ cls := "NeedMachine$Store", name := "makeClosure", desc := "(LNeedMachine$Expression;LNeedMachine$Arguments;)LNeedMachine$Closure;" } : Jvm.MethodName)) ∈ zm_tb := zm_memT3 83 rfl
theorem zw_564 : (Jvm.Cond.code ({ cls := "NeedMachine$Store", name := "makeClosure", desc := "(LNeedMachine$Expression;LNeedMachine$Arguments;)LNeedMachine$Closure;" } : Jvm.MethodName) prog_6_method_6_code (4 : Nat) (Option.some (Jvm.ClassFile.FieldType.object "NeedMachine$Closure"))) ∈ zm_tb := zm_memT3 84 rfl
theorem zw_565 : (Jvm.Cond.classLink "NeedMachine$Store" (66 : Nat) "NeedMachine$Closure") ∈ zm_tb := zm_memT3 85 rfl
theorem zw_566 : (Jvm.Cond.instantiable "NeedMachine$Closure" (4 : Nat)) ∈ zm_tb := zm_memT3 86 rfl
theorem zw_567 : (Jvm.Cond.methodLinkNest "NeedMachine$Store" (68 : Nat) ({ cls := "NeedMachine$Closure", name := "<init>", desc := "()V" } : Jvm.MethodName) "NeedMachine") ∈ zm_tb := zm_memT3 87 rfl
theorem zw_568 : (Jvm.Cond.instanceMethod ({ cls := "NeedMachine$Closure", name := "<init>", desc := "()V" } : Jvm.MethodName)) ∈ zm_tb := zm_memT3 88 rfl
theorem zw_569 : (Jvm.Cond.code ({ cls := "NeedMachine$Closure", name := "<init>", desc := "()V" } : Jvm.MethodName) prog_3_method_1_code (1 : Nat) (Option.none : Option Jvm.ClassFile.FieldType)) ∈ zm_tb := zm_memT3 89 rfl
theorem zw_570 : (Jvm.Cond.methodLink "NeedMachine$Closure" (1 : Nat) ({ cls := "java/lang/Object", name := "<init>", desc := "()V" } : Jvm.MethodName)) ∈ zm_tb := zm_memT3 90 rfl
theorem zw_571 : (Jvm.Cond.fieldLink "NeedMachine$Store" (77 : Nat) "NeedMachine$Closure" "expression" "LNeedMachine$Expression;") ∈ zm_tb := zm_memT3 91 rfl
theorem zw_572 : (Jvm.Cond.fieldLink "NeedMachine" (245 : Nat) "NeedMachine$Closure" "expression" "LNeedMachine$Expression;") ∈ zm_tb := zm_memT3 92 rfl
theorem zw_573 : (Jvm.Cond.fieldLink "NeedMachine$Store" (81 : Nat) "NeedMachine$Closure" "given" "LNeedMachine$Arguments;") ∈ zm_tb := zm_memT3 93 rfl
theorem zw_574 : (Jvm.Cond.fieldLink "NeedMachine" (248 : Nat) "NeedMachine$Closure" "given" "LNeedMachine$Arguments;") ∈ zm_tb := zm_memT3 94 rfl
theorem zw_575 : (Jvm.Cond.fieldLink "NeedMachine$Store" (84 : Nat) "NeedMachine$Closure" "begun" "Z") ∈ zm_tb := zm_memT3 95 rfl
theorem zw_576 : (Jvm.Cond.fieldLink "NeedMachine" (235 : Nat) "NeedMachine$Closure" "begun" "Z") ∈ zm_tb := zm_memT3 96 rfl
theorem zw_577 : (Jvm.Cond.fieldLink "NeedMachine$Store" (88 : Nat) "NeedMachine$Closure" "value" "LNeedMachine$Value;") ∈ zm_tb := zm_memT3 97 rfl
theorem zw_578 : (Jvm.Cond.fieldLink "NeedMachine" (251 : Nat) "NeedMachine$Closure" "value" "LNeedMachine$Value;") ∈ zm_tb := zm_memT3 98 rfl
theorem zw_588 : (Jvm.Cond.methodLink "NeedMachine" (174 : Nat) ({ cls := "NeedMachine$Store", name := "makePair", desc := "(LNeedMachine$Closure;LNeedMachine$Closure;)LNeedMachine$Value;" } : Jvm.MethodName)) ∈ zm_tb := zm_memT3 108 rfl
theorem zw_589 : (Jvm.Cond.instanceMethod ({ cls := "NeedMachine$Store", name := "makePair", desc := "(LNeedMachine$Closure;LNeedMachine$Closure;)LNeedMachine$Value;" } : Jvm.MethodName)) ∈ zm_tb := zm_memT3 109 rfl
theorem zw_590 : (Jvm.Cond.selects "NeedMachine$Store" ({ cls := "NeedMachine$Store", name := "makePair", desc := "(LNeedMachine$Closure;LNeedMachine$Closure;)LNeedMachine$Value;" } : Jvm.MethodName) ({ cls := "NeedMachine$Store", name := "makePair", desc := "(LNeedMachine$Closure;LNeedMachine$Closure;)LNeedMachine$Value;" } : Jvm.MethodName)) ∈ zm_tb := zm_memT3 110 rfl
theorem zw_591 : (Jvm.Cond.code ({ cls := "NeedMachine$Store", name := "makePair", desc := "(LNeedMachine$Closure;LNeedMachine$Closure;)LNeedMachine$Value;" } : Jvm.MethodName) prog_6_method_4_code (4 : Nat) (Option.some (Jvm.ClassFile.FieldType.object "NeedMachine$Value"))) ∈ zm_tb := zm_memT3 111 rfl
theorem zw_592 : (Jvm.Cond.methodLink "NeedMachine" (178 : Nat) ({ cls := "NeedMachine", name := "apply", desc := "(LNeedMachine$Expression;LNeedMachine$Arguments;I)LNeedMachine$Value;" } : Jvm.MethodName)) ∈ zm_tb := zm_memT3 112 rfl
theorem zw_594 : (Jvm.Cond.instanceMethod ({ cls := "NeedMachine", name := "apply", desc := "(LNeedMachine$Expression;LNeedMachine$Arguments;I)LNeedMachine$Value;" } : Jvm.MethodName)) ∈ zm_tb := zm_memT3 114 rfl
theorem zw_595 : (Jvm.Cond.code ({ cls := "NeedMachine", name := "apply", desc := "(LNeedMachine$Expression;LNeedMachine$Arguments;I)LNeedMachine$Value;" } : Jvm.MethodName) prog_1_method_14_code (7 : Nat) (Option.some (Jvm.ClassFile.FieldType.object "NeedMachine$Value"))) ∈ zm_tb := zm_memT3 115 rfl
theorem zw_596 : (Jvm.Cond.classLink "NeedMachine" (198 : Nat) "java/lang/UnsupportedOperationException") ∈ zm_tb := zm_memT3 116 rfl
theorem zw_597 : (Jvm.Cond.instantiable "java/lang/UnsupportedOperationException" (6 : Nat)) ∈ zm_tb := zm_memT3 117 rfl
theorem zw_598 : (Jvm.Cond.castable "java/lang/UnsupportedOperationException" "java/lang/UnsupportedOperationException") ∈ zm_tb := zm_memT3 118 rfl
theorem zw_605 : (Jvm.Cond.stringRef "NeedMachine" (200 : Nat) "only a function can be applied") ∈ zm_tb := zm_memT3 125 rfl
theorem zw_606 : (Jvm.Cond.methodLink "NeedMachine" (202 : Nat) ({ cls := "java/lang/UnsupportedOperationException", name := "<init>", desc := "(Ljava/lang/String;)V" } : Jvm.MethodName)) ∈ zm_tb := zm_memT3 126 rfl
theorem zw_612 : (Jvm.Cond.methodLink "NeedMachine" (210 : Nat) ({ cls := "NeedMachine$Store", name := "makeArguments", desc := "(LNeedMachine$Arguments;LNeedMachine$Closure;)LNeedMachine$Arguments;" } : Jvm.MethodName)) ∈ zm_tb := zm_memT3 132 rfl
theorem zw_613 : (Jvm.Cond.instanceMethod ({ cls := "NeedMachine$Store", name := "makeArguments", desc := "(LNeedMachine$Arguments;LNeedMachine$Closure;)LNeedMachine$Arguments;" } : Jvm.MethodName)) ∈ zm_tb := zm_memT3 133 rfl
theorem zw_614 : (Jvm.Cond.selects "NeedMachine$Store" ({ cls := "NeedMachine$Store", name := "makeArguments", desc := "(LNeedMachine$Arguments;LNeedMachine$Closure;)LNeedMachine$Arguments;" } : Jvm.MethodName) ({ cls := "NeedMachine$Store", name := "makeArguments", desc := "(LNeedMachine$Arguments;LNeedMachine$Closure;)LNeedMachine$Arguments;" } : Jvm.MethodName)) ∈ zm_tb := zm_memT3 134 rfl
theorem zw_615 : (Jvm.Cond.code ({ cls := "NeedMachine$Store", name := "makeArguments", desc := "(LNeedMachine$Arguments;LNeedMachine$Closure;)LNeedMachine$Arguments;" } : Jvm.MethodName) prog_6_method_7_code (4 : Nat) (Option.some (Jvm.ClassFile.FieldType.object "NeedMachine$Arguments"))) ∈ zm_tb := zm_memT3 135 rfl
theorem zw_616 : (Jvm.Cond.classLink "NeedMachine$Store" (91 : Nat) "NeedMachine$Arguments") ∈ zm_tb := zm_memT3 136 rfl
theorem zw_617 : (Jvm.Cond.instantiable "NeedMachine$Arguments" (3 : Nat)) ∈ zm_tb := zm_memT3 137 rfl
theorem zw_618 : (Jvm.Cond.methodLinkNest "NeedMachine$Store" (93 : Nat) ({ cls := "NeedMachine$Arguments", name := "<init>", desc := "()V" } : Jvm.MethodName) "NeedMachine") ∈ zm_tb := zm_memT3 138 rfl
theorem zw_619 : (Jvm.Cond.instanceMethod ({ cls := "NeedMachine$Arguments", name := "<init>", desc := "()V" } : Jvm.MethodName)) ∈ zm_tb := zm_memT3 139 rfl
theorem zw_620 : (Jvm.Cond.code ({ cls := "NeedMachine$Arguments", name := "<init>", desc := "()V" } : Jvm.MethodName) prog_2_method_1_code (1 : Nat) (Option.none : Option Jvm.ClassFile.FieldType)) ∈ zm_tb := zm_memT3 140 rfl
theorem zw_621 : (Jvm.Cond.methodLink "NeedMachine$Arguments" (1 : Nat) ({ cls := "java/lang/Object", name := "<init>", desc := "()V" } : Jvm.MethodName)) ∈ zm_tb := zm_memT3 141 rfl
theorem zw_622 : (Jvm.Cond.fieldLink "NeedMachine$Store" (94 : Nat) "NeedMachine$Arguments" "before" "LNeedMachine$Arguments;") ∈ zm_tb := zm_memT3 142 rfl
theorem zw_623 : (Jvm.Cond.fieldLink "NeedMachine" (262 : Nat) "NeedMachine$Arguments" "before" "LNeedMachine$Arguments;") ∈ zm_tb := zm_memT3 143 rfl
theorem zw_624 : (Jvm.Cond.fieldLink "NeedMachine$Store" (97 : Nat) "NeedMachine$Arguments" "last" "LNeedMachine$Closure;") ∈ zm_tb := zm_memT3 144 rfl
theorem zw_625 : (Jvm.Cond.fieldLink "NeedMachine" (259 : Nat) "NeedMachine$Arguments" "last" "LNeedMachine$Closure;") ∈ zm_tb := zm_memT3 145 rfl
theorem zw_626 : (Jvm.Cond.fieldLink "NeedMachine$Store" (100 : Nat) "NeedMachine$Arguments" "size" "I") ∈ zm_tb := zm_memT3 146 rfl
theorem zw_627 : (Jvm.Cond.fieldLink "NeedMachine" (214 : Nat) "NeedMachine$Arguments" "size" "I") ∈ zm_tb := zm_memT3 147 rfl
theorem zw_635 : (Jvm.Cond.methodLink "NeedMachine" (124 : Nat) ({ cls := "NeedMachine", name := "mustBePair", desc := "(LNeedMachine$Value;)LNeedMachine$Value;" } : Jvm.MethodName)) ∈ zm_tb := zm_memT3 155 rfl
theorem zw_636 : (Jvm.Cond.static ({ cls := "NeedMachine", name := "mustBePair", desc := "(LNeedMachine$Value;)LNeedMachine$Value;" } : Jvm.MethodName)) ∈ zm_tb := zm_memT3 156 rfl
theorem zw_637 : (Jvm.Cond.code ({ cls := "NeedMachine", name := "mustBePair", desc := "(LNeedMachine$Value;)LNeedMachine$Value;" } : Jvm.MethodName) prog_1_method_25_code (1 : Nat) (Option.some (Jvm.ClassFile.FieldType.object "NeedMachine$Value"))) ∈ zm_tb := zm_memT3 157 rfl
theorem zw_638 : (Jvm.Cond.stringRef "NeedMachine" (271 : Nat) "nil has no parts") ∈ zm_tb := zm_memT3 158 rfl
theorem zw_639 : (Jvm.Cond.stringRef "NeedMachine" (273 : Nat) "only a pair will do") ∈ zm_tb := zm_memT3 159 rfl
theorem zw_640 : (Jvm.Cond.methodLink "NeedMachine" (181 : Nat) ({ cls := "NeedMachine", name := "isNil", desc := "(LNeedMachine$Value;)I" } : Jvm.MethodName)) ∈ zm_tb := zm_memT3 160 rfl
theorem zw_641 : (Jvm.Cond.static ({ cls := "NeedMachine", name := "isNil", desc := "(LNeedMachine$Value;)I" } : Jvm.MethodName)) ∈ zm_tb := zm_memT3 161 rfl
theorem zw_642 : (Jvm.Cond.code ({ cls := "NeedMachine", name := "isNil", desc := "(LNeedMachine$Value;)I" } : Jvm.MethodName) prog_1_method_26_code (1 : Nat) (Option.some Jvm.ClassFile.FieldType.int)) ∈ zm_tb := zm_memT3 162 rfl
theorem zw_643 : (Jvm.Cond.stringRef "NeedMachine" (275 : Nat) "only nil or a pair will do") ∈ zm_tb := zm_memT3 163 rfl
theorem zw_644 : (Jvm.Cond.methodLink "NeedMachine" (184 : Nat) ({ cls := "NeedMachine", name := "choose", desc := "(LNeedMachine$Expression;LNeedMachine$Arguments;I)LNeedMachine$Value;" } : Jvm.MethodName)) ∈ zm_tb := zm_memT3 164 rfl
theorem zw_646 : (Jvm.Cond.instanceMethod ({ cls := "NeedMachine", name := "choose", desc := "(LNeedMachine$Expression;LNeedMachine$Arguments;I)LNeedMachine$Value;" } : Jvm.MethodName)) ∈ zm_tb := zm_memT3 166 rfl
theorem zw_647 : (Jvm.Cond.code ({ cls := "NeedMachine", name := "choose", desc := "(LNeedMachine$Expression;LNeedMachine$Arguments;I)LNeedMachine$Value;" } : Jvm.MethodName) prog_1_method_16_code (5 : Nat) (Option.some (Jvm.ClassFile.FieldType.object "NeedMachine$Value"))) ∈ zm_tb := zm_memT3 167 rfl
theorem zw_648 : (Jvm.Cond.methodLink "NeedMachine" (77 : Nat) ({ cls := "NeedMachine", name := "mustBeNumber", desc := "(LNeedMachine$Value;)I" } : Jvm.MethodName)) ∈ zm_tb := zm_memT3 168 rfl
theorem zw_649 : (Jvm.Cond.static ({ cls := "NeedMachine", name := "mustBeNumber", desc := "(LNeedMachine$Value;)I" } : Jvm.MethodName)) ∈ zm_tb := zm_memT3 169 rfl
theorem zw_650 : (Jvm.Cond.code ({ cls := "NeedMachine", name := "mustBeNumber", desc := "(LNeedMachine$Value;)I" } : Jvm.MethodName) prog_1_method_24_code (1 : Nat) (Option.some Jvm.ClassFile.FieldType.int)) ∈ zm_tb := zm_memT3 170 rfl
theorem zw_651 : (Jvm.Cond.stringRef "NeedMachine" (269 : Nat) "only a number will do") ∈ zm_tb := zm_memT3 171 rfl
theorem zw_652 : (Jvm.Cond.methodLink "NeedMachine" (187 : Nat) ({ cls := "NeedMachine", name := "reckon", desc := "(LNeedMachine$Expression;LNeedMachine$Arguments;I)LNeedMachine$Value;" } : Jvm.MethodName)) ∈ zm_tb := zm_memT3 172 rfl
theorem zw_654 : (Jvm.Cond.instanceMethod ({ cls := "NeedMachine", name := "reckon", desc := "(LNeedMachine$Expression;LNeedMachine$Arguments;I)LNeedMachine$Value;" } : Jvm.MethodName)) ∈ zm_tb := zm_memT3 174 rfl
theorem zw_655 : (Jvm.Cond.code ({ cls := "NeedMachine", name := "reckon", desc := "(LNeedMachine$Expression;LNeedMachine$Arguments;I)LNeedMachine$Value;" } : Jvm.MethodName) prog_1_method_17_code (6 : Nat) (Option.some (Jvm.ClassFile.FieldType.object "NeedMachine$Value"))) ∈ zm_tb := zm_memT3 175 rfl
theorem zw_656 : (Jvm.Cond.methodLink "NeedMachine" (227 : Nat) ({ cls := "NeedMachine", name := "reckonNumbers", desc := "(CII)I" } : Jvm.MethodName)) ∈ zm_tb := zm_memT3 176 rfl
theorem zw_657 : (Jvm.Cond.static ({ cls := "NeedMachine", name := "reckonNumbers", desc := "(CII)I" } : Jvm.MethodName)) ∈ zm_tb := zm_memT3 177 rfl
theorem zw_658 : (Jvm.Cond.code ({ cls := "NeedMachine", name := "reckonNumbers", desc := "(CII)I" } : Jvm.MethodName) prog_1_method_18_code (3 : Nat) (Option.some Jvm.ClassFile.FieldType.int)) ∈ zm_tb := zm_memT3 178 rfl
theorem zw_659 : (Jvm.Cond.methodLink "NeedMachine" (231 : Nat) ({ cls := "NeedMachine", name := "mustNotBeZero", desc := "(I)I" } : Jvm.MethodName)) ∈ zm_tb := zm_memT3 179 rfl
theorem zw_660 : (Jvm.Cond.static ({ cls := "NeedMachine", name := "mustNotBeZero", desc := "(I)I" } : Jvm.MethodName)) ∈ zm_tb := zm_memT3 180 rfl
theorem zw_661 : (Jvm.Cond.code ({ cls := "NeedMachine", name := "mustNotBeZero", desc := "(I)I" } : Jvm.MethodName) prog_1_method_27_code (1 : Nat) (Option.some Jvm.ClassFile.FieldType.int)) ∈ zm_tb := zm_memT3 181 rfl
theorem zw_662 : (Jvm.Cond.classLink "NeedMachine" (277 : Nat) "java/lang/ArithmeticException") ∈ zm_tb := zm_memT3 182 rfl
theorem zw_663 : (Jvm.Cond.instantiable "java/lang/ArithmeticException" (6 : Nat)) ∈ zm_tb := zm_memT3 183 rfl
theorem zw_664 : (Jvm.Cond.castable "java/lang/ArithmeticException" "java/lang/ArithmeticException") ∈ zm_tb := zm_memT3 184 rfl
theorem zw_671 : (Jvm.Cond.stringRef "NeedMachine" (279 : Nat) "divided by zero") ∈ zm_tb := zm_memT3 191 rfl
theorem zw_672 : (Jvm.Cond.methodLink "NeedMachine" (281 : Nat) ({ cls := "java/lang/ArithmeticException", name := "<init>", desc := "(Ljava/lang/String;)V" } : Jvm.MethodName)) ∈ zm_tb := zm_memT3 192 rfl
theorem zw_678 : (Jvm.Cond.methodLink "NeedMachineLaw" (62 : Nat) ({ cls := "NeedMachineLaw", name := "number", desc := "(LNeedMachine;[J)I" } : Jvm.MethodName)) ∈ zm_tb := zm_memT3 198 rfl
theorem zw_679 : (Jvm.Cond.static ({ cls := "NeedMachineLaw", name := "number", desc := "(LNeedMachine;[J)I" } : Jvm.MethodName)) ∈ zm_tb := zm_memT3 199 rfl
theorem zw_680 : (Jvm.Cond.codeWith ({ cls := "NeedMachineLaw", name := "number", desc := "(LNeedMachine;[J)I" } : Jvm.MethodName) method_6_code (3 : Nat) (Option.some Jvm.ClassFile.FieldType.int) [((0 : Nat), (8 : Nat), (11 : Nat), (24 : Nat)), ((0 : Nat), (8 : Nat), (14 : Nat), (28 : Nat))]) ∈ zm_tb := zm_memT3 200 rfl
theorem zw_681 : (Jvm.Cond.methodLink "NeedMachineLaw" (30 : Nat) ({ cls := "NeedMachine", name := "number", desc := "()I" } : Jvm.MethodName)) ∈ zm_tb := zm_memT3 201 rfl
theorem zw_682 : (Jvm.Cond.instanceMethod ({ cls := "NeedMachine", name := "number", desc := "()I" } : Jvm.MethodName)) ∈ zm_tb := zm_memT3 202 rfl
theorem zw_683 : (Jvm.Cond.selects "NeedMachine" ({ cls := "NeedMachine", name := "number", desc := "()I" } : Jvm.MethodName) ({ cls := "NeedMachine", name := "number", desc := "()I" } : Jvm.MethodName)) ∈ zm_tb := zm_memT3 203 rfl
theorem zw_684 : (Jvm.Cond.code ({ cls := "NeedMachine", name := "number", desc := "()I" } : Jvm.MethodName) prog_1_method_5_code (1 : Nat) (Option.some Jvm.ClassFile.FieldType.int)) ∈ zm_tb := zm_memT3 204 rfl
theorem zw_685 : (Jvm.Cond.stringRef "NeedMachine" (72 : Nat) "there is no result") ∈ zm_tb := zm_memT3 205 rfl
theorem zw_686 : (Jvm.Cond.methodLink "NeedMachineLaw" (65 : Nat) ({ cls := "NeedMachineLaw", name := "head", desc := "(LNeedMachine;[J)I" } : Jvm.MethodName)) ∈ zm_tb := zm_memT3 206 rfl
theorem zw_687 : (Jvm.Cond.static ({ cls := "NeedMachineLaw", name := "head", desc := "(LNeedMachine;[J)I" } : Jvm.MethodName)) ∈ zm_tb := zm_memT3 207 rfl
theorem zw_688 : (Jvm.Cond.codeWith ({ cls := "NeedMachineLaw", name := "head", desc := "(LNeedMachine;[J)I" } : Jvm.MethodName) method_7_code (3 : Nat) (Option.some Jvm.ClassFile.FieldType.int) [((0 : Nat), (8 : Nat), (11 : Nat), (24 : Nat)), ((0 : Nat), (8 : Nat), (14 : Nat), (26 : Nat)), ((0 : Nat), (8 : Nat), (17 : Nat), (15 : Nat)), ((0 : Nat), (8 : Nat), (20 : Nat), (28 : Nat))]) ∈ zm_tb := zm_memT3 208 rfl
theorem zw_689 : (Jvm.Cond.methodLink "NeedMachineLaw" (33 : Nat) ({ cls := "NeedMachine", name := "head", desc := "()I" } : Jvm.MethodName)) ∈ zm_tb := zm_memT3 209 rfl
theorem zw_690 : (Jvm.Cond.instanceMethod ({ cls := "NeedMachine", name := "head", desc := "()I" } : Jvm.MethodName)) ∈ zm_tb := zm_memT3 210 rfl
theorem zw_691 : (Jvm.Cond.selects "NeedMachine" ({ cls := "NeedMachine", name := "head", desc := "()I" } : Jvm.MethodName) ({ cls := "NeedMachine", name := "head", desc := "()I" } : Jvm.MethodName)) ∈ zm_tb := zm_memT3 211 rfl
theorem zw_692 : (Jvm.Cond.code ({ cls := "NeedMachine", name := "head", desc := "()I" } : Jvm.MethodName) prog_1_method_6_code (3 : Nat) (Option.some Jvm.ClassFile.FieldType.int)) ∈ zm_tb := zm_memT3 212 rfl
theorem zw_693 : (Jvm.Cond.methodLink "NeedMachine" (81 : Nat) ({ cls := "NeedMachine", name := "takeResultPair", desc := "()LNeedMachine$Value;" } : Jvm.MethodName)) ∈ zm_tb := zm_memT3 213 rfl
theorem zw_695 : (Jvm.Cond.instanceMethod ({ cls := "NeedMachine", name := "takeResultPair", desc := "()LNeedMachine$Value;" } : Jvm.MethodName)) ∈ zm_tb := zm_memT3 215 rfl
theorem zw_696 : (Jvm.Cond.code ({ cls := "NeedMachine", name := "takeResultPair", desc := "()LNeedMachine$Value;" } : Jvm.MethodName) prog_1_method_11_code (2 : Nat) (Option.some (Jvm.ClassFile.FieldType.object "NeedMachine$Value"))) ∈ zm_tb := zm_memT3 216 rfl
theorem zw_697 : (Jvm.Cond.methodLink "NeedMachineLaw" (68 : Nat) ({ cls := "NeedMachineLaw", name := "tail", desc := "(LNeedMachine;[J)I" } : Jvm.MethodName)) ∈ zm_tb := zm_memT3 217 rfl
theorem zw_698 : (Jvm.Cond.static ({ cls := "NeedMachineLaw", name := "tail", desc := "(LNeedMachine;[J)I" } : Jvm.MethodName)) ∈ zm_tb := zm_memT3 218 rfl
theorem zw_699 : (Jvm.Cond.codeWith ({ cls := "NeedMachineLaw", name := "tail", desc := "(LNeedMachine;[J)I" } : Jvm.MethodName) method_8_code (3 : Nat) (Option.some Jvm.ClassFile.FieldType.int) [((0 : Nat), (8 : Nat), (11 : Nat), (24 : Nat)), ((0 : Nat), (8 : Nat), (14 : Nat), (26 : Nat)), ((0 : Nat), (8 : Nat), (17 : Nat), (15 : Nat)), ((0 : Nat), (8 : Nat), (20 : Nat), (28 : Nat))]) ∈ zm_tb := zm_memT3 219 rfl
theorem zw_700 : (Jvm.Cond.methodLink "NeedMachineLaw" (36 : Nat) ({ cls := "NeedMachine", name := "tail", desc := "()I" } : Jvm.MethodName)) ∈ zm_tb := zm_memT3 220 rfl
theorem zw_701 : (Jvm.Cond.instanceMethod ({ cls := "NeedMachine", name := "tail", desc := "()I" } : Jvm.MethodName)) ∈ zm_tb := zm_memT3 221 rfl
theorem zw_702 : (Jvm.Cond.selects "NeedMachine" ({ cls := "NeedMachine", name := "tail", desc := "()I" } : Jvm.MethodName) ({ cls := "NeedMachine", name := "tail", desc := "()I" } : Jvm.MethodName)) ∈ zm_tb := zm_memT3 222 rfl
theorem zw_703 : (Jvm.Cond.code ({ cls := "NeedMachine", name := "tail", desc := "()I" } : Jvm.MethodName) prog_1_method_7_code (2 : Nat) (Option.some Jvm.ClassFile.FieldType.int)) ∈ zm_tb := zm_memT3 223 rfl
theorem zw_704 : (Jvm.Cond.methodLink "NeedMachineLaw" (71 : Nat) ({ cls := "NeedMachineLaw", name := "remove", desc := "(LNeedMachine;I)I" } : Jvm.MethodName)) ∈ zm_tb := zm_memT3 224 rfl
theorem zw_705 : (Jvm.Cond.static ({ cls := "NeedMachineLaw", name := "remove", desc := "(LNeedMachine;I)I" } : Jvm.MethodName)) ∈ zm_tb := zm_memT3 225 rfl
theorem zw_706 : (Jvm.Cond.codeWith ({ cls := "NeedMachineLaw", name := "remove", desc := "(LNeedMachine;I)I" } : Jvm.MethodName) method_9_code (3 : Nat) (Option.some Jvm.ClassFile.FieldType.int) [((0 : Nat), (5 : Nat), (8 : Nat), (13 : Nat)), ((0 : Nat), (5 : Nat), (11 : Nat), (24 : Nat))]) ∈ zm_tb := zm_memT3 226 rfl
theorem zw_707 : (Jvm.Cond.methodLink "NeedMachineLaw" (39 : Nat) ({ cls := "NeedMachine", name := "remove", desc := "(I)V" } : Jvm.MethodName)) ∈ zm_tb := zm_memT3 227 rfl
theorem zw_708 : (Jvm.Cond.instanceMethod ({ cls := "NeedMachine", name := "remove", desc := "(I)V" } : Jvm.MethodName)) ∈ zm_tb := zm_memT3 228 rfl
theorem zw_709 : (Jvm.Cond.selects "NeedMachine" ({ cls := "NeedMachine", name := "remove", desc := "(I)V" } : Jvm.MethodName) ({ cls := "NeedMachine", name := "remove", desc := "(I)V" } : Jvm.MethodName)) ∈ zm_tb := zm_memT3 229 rfl
theorem zw_710 : (Jvm.Cond.code ({ cls := "NeedMachine", name := "remove", desc := "(I)V" } : Jvm.MethodName) prog_1_method_8_code (2 : Nat) (Option.none : Option Jvm.ClassFile.FieldType)) ∈ zm_tb := zm_memT3 230 rfl
theorem zw_711 : (Jvm.Cond.classLink "NeedMachine" (96 : Nat) "java/lang/IllegalArgumentException") ∈ zm_tb := zm_memT3 231 rfl
theorem zw_712 : (Jvm.Cond.stringRef "NeedMachine" (98 : Nat) "no such name") ∈ zm_tb := zm_memT3 232 rfl
theorem zw_713 : (Jvm.Cond.methodLink "NeedMachine" (100 : Nat) ({ cls := "java/lang/IllegalArgumentException", name := "<init>", desc := "(Ljava/lang/String;)V" } : Jvm.MethodName)) ∈ zm_tb := zm_memT3 233 rfl
theorem zw_714 : (Jvm.Cond.classLink "NeedMachineLaw" (44 : Nat) "NeedMachineModel") ∈ zm_tb := zm_memT3 234 rfl
theorem zw_715 : (Jvm.Cond.instantiable "NeedMachineModel" (44 : Nat)) ∈ zm_tb := zm_memT3 235 rfl
theorem zw_716 : (Jvm.Cond.methodLink "NeedMachineLaw" (46 : Nat) ({ cls := "NeedMachineModel", name := "<init>", desc := "()V" } : Jvm.MethodName)) ∈ zm_tb := zm_memT3 236 rfl
theorem zw_717 : (Jvm.Cond.instanceMethod ({ cls := "NeedMachineModel", name := "<init>", desc := "()V" } : Jvm.MethodName)) ∈ zm_tb := zm_memT3 237 rfl
theorem zw_718 : (Jvm.Cond.code ({ cls := "NeedMachineModel", name := "<init>", desc := "()V" } : Jvm.MethodName) prog_10_method_1_code (1 : Nat) (Option.none : Option Jvm.ClassFile.FieldType)) ∈ zm_tb := zm_memT3 238 rfl
theorem zw_719 : (Jvm.Cond.methodLink "NeedMachineModel" (1 : Nat) ({ cls := "java/lang/Object", name := "<init>", desc := "()V" } : Jvm.MethodName)) ∈ zm_tb := zm_memT3 239 rfl
theorem zw_720 : (Jvm.Cond.fieldLink "NeedMachineModel" (7 : Nat) "NeedMachineModel" "text" "[I") ∈ zm_tb := zm_memT4 0 rfl
theorem zw_721 : (Jvm.Cond.fieldLink "NeedMachineModel" (13 : Nat) "NeedMachineModel" "pool" "[I") ∈ zm_tb := zm_memT4 1 rfl
theorem zw_722 : (Jvm.Cond.fieldLink "NeedMachineModel" (16 : Nat) "NeedMachineModel" "spare" "[I") ∈ zm_tb := zm_memT4 2 rfl
theorem zw_723 : (Jvm.Cond.fieldLink "NeedMachineModel" (19 : Nat) "NeedMachineModel" "body" "[I") ∈ zm_tb := zm_memT4 3 rfl
theorem zw_724 : (Jvm.Cond.fieldLink "NeedMachineModel" (22 : Nat) "NeedMachineModel" "letters" "[I") ∈ zm_tb := zm_memT4 4 rfl
theorem zw_725 : (Jvm.Cond.fieldLink "NeedMachineModel" (25 : Nat) "NeedMachineModel" "parameters" "[I") ∈ zm_tb := zm_memT4 5 rfl
theorem zw_726 : (Jvm.Cond.fieldLink "NeedMachineModel" (28 : Nat) "NeedMachineModel" "need" "[I") ∈ zm_tb := zm_memT4 6 rfl
theorem zw_727 : (Jvm.Cond.fieldLink "NeedMachineModel" (31 : Nat) "NeedMachineModel" "defined" "[Z") ∈ zm_tb := zm_memT4 7 rfl
theorem zw_728 : (Jvm.Cond.fieldLink "NeedMachineModel" (95 : Nat) "NeedMachineModel" "size" "I") ∈ zm_tb := zm_memT4 8 rfl
theorem zw_729 : (Jvm.Cond.fieldLink "NeedMachineModel" (35 : Nat) "NeedMachineModel" "place" "I") ∈ zm_tb := zm_memT4 9 rfl
theorem zw_730 : (Jvm.Cond.fieldLink "NeedMachineModel" (102 : Nat) "NeedMachineModel" "pos" "I") ∈ zm_tb := zm_memT4 10 rfl
theorem zw_731 : (Jvm.Cond.fieldLink "NeedMachineModel" (112 : Nat) "NeedMachineModel" "pooled" "I") ∈ zm_tb := zm_memT4 11 rfl
theorem zw_732 : (Jvm.Cond.fieldLink "NeedMachineModel" (84 : Nat) "NeedMachineModel" "thrown" "I") ∈ zm_tb := zm_memT4 12 rfl
theorem zw_733 : (Jvm.Cond.fieldLink "NeedMachineModel" (39 : Nat) "NeedMachineModel" "expression" "[I") ∈ zm_tb := zm_memT4 13 rfl
theorem zw_734 : (Jvm.Cond.fieldLink "NeedMachineModel" (42 : Nat) "NeedMachineModel" "around" "[I") ∈ zm_tb := zm_memT4 14 rfl
theorem zw_735 : (Jvm.Cond.fieldLink "NeedMachineModel" (45 : Nat) "NeedMachineModel" "state" "[I") ∈ zm_tb := zm_memT4 15 rfl
theorem zw_736 : (Jvm.Cond.fieldLink "NeedMachineModel" (48 : Nat) "NeedMachineModel" "kind" "[I") ∈ zm_tb := zm_memT4 16 rfl
theorem zw_737 : (Jvm.Cond.fieldLink "NeedMachineModel" (51 : Nat) "NeedMachineModel" "first" "[I") ∈ zm_tb := zm_memT4 17 rfl
theorem zw_738 : (Jvm.Cond.fieldLink "NeedMachineModel" (54 : Nat) "NeedMachineModel" "second" "[I") ∈ zm_tb := zm_memT4 18 rfl
theorem zw_739 : (Jvm.Cond.fieldLink "NeedMachineModel" (57 : Nat) "NeedMachineModel" "name" "[I") ∈ zm_tb := zm_memT4 19 rfl
theorem zw_740 : (Jvm.Cond.fieldLink "NeedMachineModel" (60 : Nat) "NeedMachineModel" "holds" "[I") ∈ zm_tb := zm_memT4 20 rfl
theorem zw_741 : (Jvm.Cond.fieldLink "NeedMachineModel" (63 : Nat) "NeedMachineModel" "argument" "[I") ∈ zm_tb := zm_memT4 21 rfl
theorem zw_742 : (Jvm.Cond.fieldLink "NeedMachineModel" (66 : Nat) "NeedMachineModel" "before" "[I") ∈ zm_tb := zm_memT4 22 rfl
theorem zw_743 : (Jvm.Cond.fieldLink "NeedMachineModel" (135 : Nat) "NeedMachineModel" "closures" "I") ∈ zm_tb := zm_memT4 23 rfl
theorem zw_744 : (Jvm.Cond.fieldLink "NeedMachineModel" (132 : Nat) "NeedMachineModel" "surroundings" "I") ∈ zm_tb := zm_memT4 24 rfl
theorem zw_745 : (Jvm.Cond.fieldLink "NeedMachineModel" (129 : Nat) "NeedMachineModel" "arguments" "I") ∈ zm_tb := zm_memT4 25 rfl
theorem zw_746 : (Jvm.Cond.fieldLink "NeedMachineModel" (69 : Nat) "NeedMachineModel" "at" "[I") ∈ zm_tb := zm_memT4 26 rfl
theorem zw_747 : (Jvm.Cond.fieldLink "NeedMachineModel" (72 : Nat) "NeedMachineModel" "in" "[I") ∈ zm_tb := zm_memT4 27 rfl
theorem zw_748 : (Jvm.Cond.fieldLink "NeedMachineModel" (75 : Nat) "NeedMachineModel" "stage" "[I") ∈ zm_tb := zm_memT4 28 rfl
theorem zw_749 : (Jvm.Cond.fieldLink "NeedMachineModel" (78 : Nat) "NeedMachineModel" "kept" "[I") ∈ zm_tb := zm_memT4 29 rfl
theorem zw_750 : (Jvm.Cond.fieldLink "NeedMachineModel" (81 : Nat) "NeedMachineModel" "forcing" "[I") ∈ zm_tb := zm_memT4 30 rfl
theorem zw_751 : (Jvm.Cond.fieldLink "NeedMachineModel" (138 : Nat) "NeedMachineModel" "depth" "I") ∈ zm_tb := zm_memT4 31 rfl
theorem zw_752 : (Jvm.Cond.fieldLink "NeedMachineModel" (141 : Nat) "NeedMachineModel" "deepest" "I") ∈ zm_tb := zm_memT4 32 rfl
theorem zw_753 : (Jvm.Cond.fieldLink "NeedMachineModel" (175 : Nat) "NeedMachineModel" "callsNow" "I") ∈ zm_tb := zm_memT4 33 rfl
theorem zw_754 : (Jvm.Cond.fieldLink "NeedMachineModel" (178 : Nat) "NeedMachineModel" "calls" "I") ∈ zm_tb := zm_memT4 34 rfl
theorem zw_755 : (Jvm.Cond.fieldLink "NeedMachineModel" (168 : Nat) "NeedMachineModel" "forced" "I") ∈ zm_tb := zm_memT4 35 rfl
theorem zw_756 : (Jvm.Cond.fieldLink "NeedMachineModel" (161 : Nat) "NeedMachineModel" "again" "I") ∈ zm_tb := zm_memT4 36 rfl
theorem zw_757 : (Jvm.Cond.fieldLink "NeedMachineModel" (144 : Nat) "NeedMachineModel" "outKind" "I") ∈ zm_tb := zm_memT4 37 rfl
theorem zw_758 : (Jvm.Cond.fieldLink "NeedMachineModel" (147 : Nat) "NeedMachineModel" "outFirst" "I") ∈ zm_tb := zm_memT4 38 rfl
theorem zw_759 : (Jvm.Cond.fieldLink "NeedMachineModel" (150 : Nat) "NeedMachineModel" "outSecond" "I") ∈ zm_tb := zm_memT4 39 rfl
theorem zw_760 : (Jvm.Cond.fieldLink "NeedMachineModel" (220 : Nat) "NeedMachineModel" "resultKind" "I") ∈ zm_tb := zm_memT4 40 rfl
theorem zw_761 : (Jvm.Cond.fieldLink "NeedMachineModel" (223 : Nat) "NeedMachineModel" "resultFirst" "I") ∈ zm_tb := zm_memT4 41 rfl
theorem zw_762 : (Jvm.Cond.fieldLink "NeedMachineModel" (226 : Nat) "NeedMachineModel" "resultSecond" "I") ∈ zm_tb := zm_memT4 42 rfl
theorem zw_763 : (Jvm.Cond.fieldLink "NeedMachineModel" (216 : Nat) "NeedMachineModel" "has" "Z") ∈ zm_tb := zm_memT4 43 rfl
theorem zw_853 : (Jvm.Cond.arrayClass Jvm.ClassFile.FieldType.int) ∈ zm_tb := zm_memT4 133 rfl
theorem zw_854 : (Jvm.Cond.arrayClass Jvm.ClassFile.FieldType.boolean) ∈ zm_tb := zm_memT4 134 rfl
theorem zw_855 : (Jvm.Cond.methodLink "NeedMachineLaw" (54 : Nat) ({ cls := "NeedMachineModel", name := "type", desc := "(J)I" } : Jvm.MethodName)) ∈ zm_tb := zm_memT4 135 rfl
theorem zw_856 : (Jvm.Cond.instanceMethod ({ cls := "NeedMachineModel", name := "type", desc := "(J)I" } : Jvm.MethodName)) ∈ zm_tb := zm_memT4 136 rfl
theorem zw_857 : (Jvm.Cond.selects "NeedMachineModel" ({ cls := "NeedMachineModel", name := "type", desc := "(J)I" } : Jvm.MethodName) ({ cls := "NeedMachineModel", name := "type", desc := "(J)I" } : Jvm.MethodName)) ∈ zm_tb := zm_memT4 137 rfl
theorem zw_858 : (Jvm.Cond.code ({ cls := "NeedMachineModel", name := "type", desc := "(J)I" } : Jvm.MethodName) prog_10_method_6_code (7 : Nat) (Option.some Jvm.ClassFile.FieldType.int)) ∈ zm_tb := zm_memT4 138 rfl
theorem zw_859 : (Jvm.Cond.methodLink "NeedMachineModel" (87 : Nat) ({ cls := "NeedMachineModel", name := "between", desc := "(III)Z" } : Jvm.MethodName)) ∈ zm_tb := zm_memT4 139 rfl
theorem zw_860 : (Jvm.Cond.static ({ cls := "NeedMachineModel", name := "between", desc := "(III)Z" } : Jvm.MethodName)) ∈ zm_tb := zm_memT4 140 rfl
theorem zw_861 : (Jvm.Cond.code ({ cls := "NeedMachineModel", name := "between", desc := "(III)Z" } : Jvm.MethodName) prog_10_method_3_code (3 : Nat) (Option.some Jvm.ClassFile.FieldType.boolean)) ∈ zm_tb := zm_memT4 141 rfl
theorem zw_862 : (Jvm.Cond.methodLink "NeedMachineModel" (91 : Nat) ({ cls := "NeedMachineModel", name := "bad", desc := "(Z)Z" } : Jvm.MethodName)) ∈ zm_tb := zm_memT4 142 rfl
theorem zw_864 : (Jvm.Cond.instanceMethod ({ cls := "NeedMachineModel", name := "bad", desc := "(Z)Z" } : Jvm.MethodName)) ∈ zm_tb := zm_memT4 144 rfl
theorem zw_865 : (Jvm.Cond.code ({ cls := "NeedMachineModel", name := "bad", desc := "(Z)Z" } : Jvm.MethodName) prog_10_method_4_code (2 : Nat) (Option.some Jvm.ClassFile.FieldType.boolean)) ∈ zm_tb := zm_memT4 145 rfl
theorem zw_866 : (Jvm.Cond.methodLink "NeedMachineModel" (98 : Nat) ({ cls := "NeedMachineModel", name := "fail", desc := "(I)I" } : Jvm.MethodName)) ∈ zm_tb := zm_memT4 146 rfl
theorem zw_868 : (Jvm.Cond.instanceMethod ({ cls := "NeedMachineModel", name := "fail", desc := "(I)I" } : Jvm.MethodName)) ∈ zm_tb := zm_memT4 148 rfl
theorem zw_869 : (Jvm.Cond.code ({ cls := "NeedMachineModel", name := "fail", desc := "(I)I" } : Jvm.MethodName) prog_10_method_5_code (2 : Nat) (Option.some Jvm.ClassFile.FieldType.int)) ∈ zm_tb := zm_memT4 149 rfl
theorem zw_870 : (Jvm.Cond.methodLink "NeedMachineLaw" (58 : Nat) ({ cls := "NeedMachineModel", name := "define", desc := "()I" } : Jvm.MethodName)) ∈ zm_tb := zm_memT4 150 rfl
theorem zw_871 : (Jvm.Cond.instanceMethod ({ cls := "NeedMachineModel", name := "define", desc := "()I" } : Jvm.MethodName)) ∈ zm_tb := zm_memT4 151 rfl
theorem zw_872 : (Jvm.Cond.selects "NeedMachineModel" ({ cls := "NeedMachineModel", name := "define", desc := "()I" } : Jvm.MethodName) ({ cls := "NeedMachineModel", name := "define", desc := "()I" } : Jvm.MethodName)) ∈ zm_tb := zm_memT4 152 rfl
theorem zw_873 : (Jvm.Cond.code ({ cls := "NeedMachineModel", name := "define", desc := "()I" } : Jvm.MethodName) prog_10_method_12_code (8 : Nat) (Option.some Jvm.ClassFile.FieldType.int)) ∈ zm_tb := zm_memT4 153 rfl
theorem zw_874 : (Jvm.Cond.methodLink "NeedMachineModel" (115 : Nat) ({ cls := "NeedMachineModel", name := "heading", desc := "([I)I" } : Jvm.MethodName)) ∈ zm_tb := zm_memT4 154 rfl
theorem zw_876 : (Jvm.Cond.instanceMethod ({ cls := "NeedMachineModel", name := "heading", desc := "([I)I" } : Jvm.MethodName)) ∈ zm_tb := zm_memT4 156 rfl
theorem zw_877 : (Jvm.Cond.code ({ cls := "NeedMachineModel", name := "heading", desc := "([I)I" } : Jvm.MethodName) prog_10_method_10_code (4 : Nat) (Option.some Jvm.ClassFile.FieldType.int)) ∈ zm_tb := zm_memT4 157 rfl
theorem zw_878 : (Jvm.Cond.methodLink "NeedMachineModel" (105 : Nat) ({ cls := "NeedMachineModel", name := "look", desc := "()I" } : Jvm.MethodName)) ∈ zm_tb := zm_memT4 158 rfl
theorem zw_880 : (Jvm.Cond.instanceMethod ({ cls := "NeedMachineModel", name := "look", desc := "()I" } : Jvm.MethodName)) ∈ zm_tb := zm_memT4 160 rfl
theorem zw_881 : (Jvm.Cond.code ({ cls := "NeedMachineModel", name := "look", desc := "()I" } : Jvm.MethodName) prog_10_method_7_code (1 : Nat) (Option.some Jvm.ClassFile.FieldType.int)) ∈ zm_tb := zm_memT4 161 rfl
theorem zw_882 : (Jvm.Cond.methodLink "NeedMachineModel" (119 : Nat) ({ cls := "NeedMachineModel", name := "read", desc := "(I)Z" } : Jvm.MethodName)) ∈ zm_tb := zm_memT4 162 rfl
theorem zw_884 : (Jvm.Cond.instanceMethod ({ cls := "NeedMachineModel", name := "read", desc := "(I)Z" } : Jvm.MethodName)) ∈ zm_tb := zm_memT4 164 rfl
theorem zw_885 : (Jvm.Cond.code ({ cls := "NeedMachineModel", name := "read", desc := "(I)Z" } : Jvm.MethodName) prog_10_method_9_code (5 : Nat) (Option.some Jvm.ClassFile.FieldType.boolean)) ∈ zm_tb := zm_memT4 165 rfl
theorem zw_886 : (Jvm.Cond.methodLink "NeedMachineModel" (109 : Nat) ({ cls := "NeedMachineModel", name := "parts", desc := "(I)I" } : Jvm.MethodName)) ∈ zm_tb := zm_memT4 166 rfl
theorem zw_887 : (Jvm.Cond.static ({ cls := "NeedMachineModel", name := "parts", desc := "(I)I" } : Jvm.MethodName)) ∈ zm_tb := zm_memT4 167 rfl
theorem zw_888 : (Jvm.Cond.code ({ cls := "NeedMachineModel", name := "parts", desc := "(I)I" } : Jvm.MethodName) prog_10_method_8_code (1 : Nat) (Option.some Jvm.ClassFile.FieldType.int)) ∈ zm_tb := zm_memT4 168 rfl
theorem zw_889 : (Jvm.Cond.methodLink "NeedMachineModel" (123 : Nat) ({ cls := "NeedMachineModel", name := "store", desc := "(I)I" } : Jvm.MethodName)) ∈ zm_tb := zm_memT4 169 rfl
theorem zw_891 : (Jvm.Cond.instanceMethod ({ cls := "NeedMachineModel", name := "store", desc := "(I)I" } : Jvm.MethodName)) ∈ zm_tb := zm_memT4 171 rfl
theorem zw_892 : (Jvm.Cond.code ({ cls := "NeedMachineModel", name := "store", desc := "(I)I" } : Jvm.MethodName) prog_10_method_11_code (4 : Nat) (Option.some Jvm.ClassFile.FieldType.int)) ∈ zm_tb := zm_memT4 172 rfl
theorem zw_893 : (Jvm.Cond.methodLink "NeedMachineLaw" (61 : Nat) ({ cls := "NeedMachineModel", name := "ask", desc := "()I" } : Jvm.MethodName)) ∈ zm_tb := zm_memT4 173 rfl
theorem zw_894 : (Jvm.Cond.instanceMethod ({ cls := "NeedMachineModel", name := "ask", desc := "()I" } : Jvm.MethodName)) ∈ zm_tb := zm_memT4 174 rfl
theorem zw_895 : (Jvm.Cond.selects "NeedMachineModel" ({ cls := "NeedMachineModel", name := "ask", desc := "()I" } : Jvm.MethodName) ({ cls := "NeedMachineModel", name := "ask", desc := "()I" } : Jvm.MethodName)) ∈ zm_tb := zm_memT4 175 rfl
theorem zw_896 : (Jvm.Cond.code ({ cls := "NeedMachineModel", name := "ask", desc := "()I" } : Jvm.MethodName) prog_10_method_32_code (3 : Nat) (Option.some Jvm.ClassFile.FieldType.int)) ∈ zm_tb := zm_memT4 176 rfl
theorem zw_897 : (Jvm.Cond.methodLink "NeedMachineModel" (229 : Nat) ({ cls := "NeedMachineModel", name := "sweep", desc := "()V" } : Jvm.MethodName)) ∈ zm_tb := zm_memT4 177 rfl
theorem zw_899 : (Jvm.Cond.instanceMethod ({ cls := "NeedMachineModel", name := "sweep", desc := "()V" } : Jvm.MethodName)) ∈ zm_tb := zm_memT4 179 rfl
theorem zw_900 : (Jvm.Cond.code ({ cls := "NeedMachineModel", name := "sweep", desc := "()V" } : Jvm.MethodName) prog_10_method_13_code (6 : Nat) (Option.none : Option Jvm.ClassFile.FieldType)) ∈ zm_tb := zm_memT4 180 rfl
theorem zw_901 : (Jvm.Cond.methodLink "NeedMachineModel" (126 : Nat) ({ cls := "NeedMachineModel", name := "skip", desc := "(I)I" } : Jvm.MethodName)) ∈ zm_tb := zm_memT4 181 rfl
theorem zw_903 : (Jvm.Cond.instanceMethod ({ cls := "NeedMachineModel", name := "skip", desc := "(I)I" } : Jvm.MethodName)) ∈ zm_tb := zm_memT4 183 rfl
theorem zw_904 : (Jvm.Cond.code ({ cls := "NeedMachineModel", name := "skip", desc := "(I)I" } : Jvm.MethodName) prog_10_method_14_code (4 : Nat) (Option.some Jvm.ClassFile.FieldType.int)) ∈ zm_tb := zm_memT4 184 rfl
theorem zw_905 : (Jvm.Cond.methodLink "NeedMachineModel" (232 : Nat) ({ cls := "NeedMachineModel", name := "workOut", desc := "(II)V" } : Jvm.MethodName)) ∈ zm_tb := zm_memT4 185 rfl
theorem zw_907 : (Jvm.Cond.instanceMethod ({ cls := "NeedMachineModel", name := "workOut", desc := "(II)V" } : Jvm.MethodName)) ∈ zm_tb := zm_memT4 187 rfl
theorem zw_908 : (Jvm.Cond.code ({ cls := "NeedMachineModel", name := "workOut", desc := "(II)V" } : Jvm.MethodName) prog_10_method_30_code (3 : Nat) (Option.none : Option Jvm.ClassFile.FieldType)) ∈ zm_tb := zm_memT4 188 rfl
theorem zw_909 : (Jvm.Cond.methodLink "NeedMachineModel" (171 : Nat) ({ cls := "NeedMachineModel", name := "push", desc := "(II)V" } : Jvm.MethodName)) ∈ zm_tb := zm_memT4 189 rfl
theorem zw_911 : (Jvm.Cond.instanceMethod ({ cls := "NeedMachineModel", name := "push", desc := "(II)V" } : Jvm.MethodName)) ∈ zm_tb := zm_memT4 191 rfl
theorem zw_912 : (Jvm.Cond.code ({ cls := "NeedMachineModel", name := "push", desc := "(II)V" } : Jvm.MethodName) prog_10_method_15_code (3 : Nat) (Option.none : Option Jvm.ClassFile.FieldType)) ∈ zm_tb := zm_memT4 192 rfl
theorem zw_913 : (Jvm.Cond.methodLink "NeedMachineModel" (213 : Nat) ({ cls := "NeedMachineModel", name := "step", desc := "()V" } : Jvm.MethodName)) ∈ zm_tb := zm_memT4 193 rfl
theorem zw_915 : (Jvm.Cond.instanceMethod ({ cls := "NeedMachineModel", name := "step", desc := "()V" } : Jvm.MethodName)) ∈ zm_tb := zm_memT4 195 rfl
theorem zw_916 : (Jvm.Cond.code ({ cls := "NeedMachineModel", name := "step", desc := "()V" } : Jvm.MethodName) prog_10_method_29_code (5 : Nat) (Option.none : Option Jvm.ClassFile.FieldType)) ∈ zm_tb := zm_memT4 196 rfl
theorem zw_917 : (Jvm.Cond.methodLink "NeedMachineModel" (204 : Nat) ({ cls := "NeedMachineModel", name := "keepValue", desc := "()V" } : Jvm.MethodName)) ∈ zm_tb := zm_memT4 197 rfl
theorem zw_919 : (Jvm.Cond.instanceMethod ({ cls := "NeedMachineModel", name := "keepValue", desc := "()V" } : Jvm.MethodName)) ∈ zm_tb := zm_memT4 199 rfl
theorem zw_920 : (Jvm.Cond.code ({ cls := "NeedMachineModel", name := "keepValue", desc := "()V" } : Jvm.MethodName) prog_10_method_21_code (2 : Nat) (Option.none : Option Jvm.ClassFile.FieldType)) ∈ zm_tb := zm_memT4 200 rfl
theorem zw_921 : (Jvm.Cond.methodLink "NeedMachineModel" (164 : Nat) ({ cls := "NeedMachineModel", name := "giveClosure", desc := "(I)V" } : Jvm.MethodName)) ∈ zm_tb := zm_memT4 201 rfl
theorem zw_923 : (Jvm.Cond.instanceMethod ({ cls := "NeedMachineModel", name := "giveClosure", desc := "(I)V" } : Jvm.MethodName)) ∈ zm_tb := zm_memT4 203 rfl
theorem zw_924 : (Jvm.Cond.code ({ cls := "NeedMachineModel", name := "giveClosure", desc := "(I)V" } : Jvm.MethodName) prog_10_method_19_code (2 : Nat) (Option.none : Option Jvm.ClassFile.FieldType)) ∈ zm_tb := zm_memT4 204 rfl
theorem zw_925 : (Jvm.Cond.methodLink "NeedMachineModel" (157 : Nat) ({ cls := "NeedMachineModel", name := "give", desc := "(III)V" } : Jvm.MethodName)) ∈ zm_tb := zm_memT4 205 rfl
theorem zw_927 : (Jvm.Cond.instanceMethod ({ cls := "NeedMachineModel", name := "give", desc := "(III)V" } : Jvm.MethodName)) ∈ zm_tb := zm_memT4 207 rfl
theorem zw_928 : (Jvm.Cond.code ({ cls := "NeedMachineModel", name := "give", desc := "(III)V" } : Jvm.MethodName) prog_10_method_16_code (4 : Nat) (Option.none : Option Jvm.ClassFile.FieldType)) ∈ zm_tb := zm_memT4 208 rfl
theorem zw_929 : (Jvm.Cond.methodLink "NeedMachineModel" (207 : Nat) ({ cls := "NeedMachineModel", name := "goOn", desc := "(II)V" } : Jvm.MethodName)) ∈ zm_tb := zm_memT4 209 rfl
theorem zw_931 : (Jvm.Cond.instanceMethod ({ cls := "NeedMachineModel", name := "goOn", desc := "(II)V" } : Jvm.MethodName)) ∈ zm_tb := zm_memT4 211 rfl
theorem zw_932 : (Jvm.Cond.code ({ cls := "NeedMachineModel", name := "goOn", desc := "(II)V" } : Jvm.MethodName) prog_10_method_28_code (5 : Nat) (Option.none : Option Jvm.ClassFile.FieldType)) ∈ zm_tb := zm_memT4 212 rfl
theorem zw_933 : (Jvm.Cond.methodLink "NeedMachineModel" (190 : Nat) ({ cls := "NeedMachineModel", name := "apply", desc := "(I)V" } : Jvm.MethodName)) ∈ zm_tb := zm_memT4 213 rfl
theorem zw_935 : (Jvm.Cond.instanceMethod ({ cls := "NeedMachineModel", name := "apply", desc := "(I)V" } : Jvm.MethodName)) ∈ zm_tb := zm_memT4 215 rfl
theorem zw_936 : (Jvm.Cond.code ({ cls := "NeedMachineModel", name := "apply", desc := "(I)V" } : Jvm.MethodName) prog_10_method_24_code (6 : Nat) (Option.none : Option Jvm.ClassFile.FieldType)) ∈ zm_tb := zm_memT4 216 rfl
theorem zw_937 : (Jvm.Cond.methodLink "NeedMachineModel" (181 : Nat) ({ cls := "NeedMachineModel", name := "closureOf", desc := "(II)I" } : Jvm.MethodName)) ∈ zm_tb := zm_memT4 217 rfl
theorem zw_939 : (Jvm.Cond.instanceMethod ({ cls := "NeedMachineModel", name := "closureOf", desc := "(II)I" } : Jvm.MethodName)) ∈ zm_tb := zm_memT4 219 rfl
theorem zw_940 : (Jvm.Cond.code ({ cls := "NeedMachineModel", name := "closureOf", desc := "(II)I" } : Jvm.MethodName) prog_10_method_18_code (3 : Nat) (Option.some Jvm.ClassFile.FieldType.int)) ∈ zm_tb := zm_memT4 220 rfl
theorem zw_941 : (Jvm.Cond.methodLink "NeedMachineModel" (153 : Nat) ({ cls := "NeedMachineModel", name := "parameterOf", desc := "(II)I" } : Jvm.MethodName)) ∈ zm_tb := zm_memT4 221 rfl
theorem zw_943 : (Jvm.Cond.instanceMethod ({ cls := "NeedMachineModel", name := "parameterOf", desc := "(II)I" } : Jvm.MethodName)) ∈ zm_tb := zm_memT4 223 rfl
theorem zw_944 : (Jvm.Cond.code ({ cls := "NeedMachineModel", name := "parameterOf", desc := "(II)I" } : Jvm.MethodName) prog_10_method_17_code (4 : Nat) (Option.some Jvm.ClassFile.FieldType.int)) ∈ zm_tb := zm_memT4 224 rfl
theorem zw_945 : (Jvm.Cond.methodLink "NeedMachineModel" (184 : Nat) ({ cls := "NeedMachineModel", name := "countOf", desc := "(I)I" } : Jvm.MethodName)) ∈ zm_tb := zm_memT4 225 rfl
theorem zw_947 : (Jvm.Cond.instanceMethod ({ cls := "NeedMachineModel", name := "countOf", desc := "(I)I" } : Jvm.MethodName)) ∈ zm_tb := zm_memT4 227 rfl
theorem zw_948 : (Jvm.Cond.code ({ cls := "NeedMachineModel", name := "countOf", desc := "(I)I" } : Jvm.MethodName) prog_10_method_23_code (4 : Nat) (Option.some Jvm.ClassFile.FieldType.int)) ∈ zm_tb := zm_memT4 228 rfl
theorem zw_949 : (Jvm.Cond.methodLink "NeedMachineModel" (187 : Nat) ({ cls := "NeedMachineModel", name := "call", desc := "(III)V" } : Jvm.MethodName)) ∈ zm_tb := zm_memT4 229 rfl
theorem zw_951 : (Jvm.Cond.instanceMethod ({ cls := "NeedMachineModel", name := "call", desc := "(III)V" } : Jvm.MethodName)) ∈ zm_tb := zm_memT4 231 rfl
theorem zw_952 : (Jvm.Cond.code ({ cls := "NeedMachineModel", name := "call", desc := "(III)V" } : Jvm.MethodName) prog_10_method_22_code (7 : Nat) (Option.none : Option Jvm.ClassFile.FieldType)) ∈ zm_tb := zm_memT4 232 rfl
theorem zw_953 : (Jvm.Cond.methodLink "NeedMachineModel" (193 : Nat) ({ cls := "NeedMachineModel", name := "force", desc := "(I)V" } : Jvm.MethodName)) ∈ zm_tb := zm_memT4 233 rfl
theorem zw_955 : (Jvm.Cond.instanceMethod ({ cls := "NeedMachineModel", name := "force", desc := "(I)V" } : Jvm.MethodName)) ∈ zm_tb := zm_memT4 235 rfl
theorem zw_956 : (Jvm.Cond.code ({ cls := "NeedMachineModel", name := "force", desc := "(I)V" } : Jvm.MethodName) prog_10_method_20_code (2 : Nat) (Option.none : Option Jvm.ClassFile.FieldType)) ∈ zm_tb := zm_memT4 236 rfl
theorem zw_957 : (Jvm.Cond.methodLink "NeedMachineModel" (196 : Nat) ({ cls := "NeedMachineModel", name := "isNumber", desc := "()Z" } : Jvm.MethodName)) ∈ zm_tb := zm_memT4 237 rfl
theorem zw_959 : (Jvm.Cond.instanceMethod ({ cls := "NeedMachineModel", name := "isNumber", desc := "()Z" } : Jvm.MethodName)) ∈ zm_tb := zm_memT4 239 rfl
theorem zw_960 : (Jvm.Cond.code ({ cls := "NeedMachineModel", name := "isNumber", desc := "()Z" } : Jvm.MethodName) prog_10_method_27_code (1 : Nat) (Option.some Jvm.ClassFile.FieldType.boolean)) ∈ zm_tb := zm_memT5 0 rfl
theorem zw_961 : (Jvm.Cond.methodLink "NeedMachineModel" (200 : Nat) ({ cls := "NeedMachineModel", name := "binary", desc := "(III)I" } : Jvm.MethodName)) ∈ zm_tb := zm_memT5 1 rfl
theorem zw_963 : (Jvm.Cond.instanceMethod ({ cls := "NeedMachineModel", name := "binary", desc := "(III)I" } : Jvm.MethodName)) ∈ zm_tb := zm_memT5 3 rfl
theorem zw_964 : (Jvm.Cond.code ({ cls := "NeedMachineModel", name := "binary", desc := "(III)I" } : Jvm.MethodName) prog_10_method_26_code (4 : Nat) (Option.some Jvm.ClassFile.FieldType.int)) ∈ zm_tb := zm_memT5 4 rfl
theorem zw_965 : (Jvm.Cond.methodLink "NeedMachineModel" (210 : Nat) ({ cls := "NeedMachineModel", name := "nameAt", desc := "(I)V" } : Jvm.MethodName)) ∈ zm_tb := zm_memT5 5 rfl
theorem zw_967 : (Jvm.Cond.instanceMethod ({ cls := "NeedMachineModel", name := "nameAt", desc := "(I)V" } : Jvm.MethodName)) ∈ zm_tb := zm_memT5 7 rfl
theorem zw_968 : (Jvm.Cond.code ({ cls := "NeedMachineModel", name := "nameAt", desc := "(I)V" } : Jvm.MethodName) prog_10_method_25_code (2 : Nat) (Option.none : Option Jvm.ClassFile.FieldType)) ∈ zm_tb := zm_memT5 8 rfl
theorem zw_969 : (Jvm.Cond.methodLink "NeedMachineModel" (235 : Nat) ({ cls := "NeedMachineModel", name := "answer", desc := "()I" } : Jvm.MethodName)) ∈ zm_tb := zm_memT5 9 rfl
theorem zw_971 : (Jvm.Cond.instanceMethod ({ cls := "NeedMachineModel", name := "answer", desc := "()I" } : Jvm.MethodName)) ∈ zm_tb := zm_memT5 11 rfl
theorem zw_972 : (Jvm.Cond.code ({ cls := "NeedMachineModel", name := "answer", desc := "()I" } : Jvm.MethodName) prog_10_method_31_code (1 : Nat) (Option.some Jvm.ClassFile.FieldType.int)) ∈ zm_tb := zm_memT5 12 rfl
theorem zw_973 : (Jvm.Cond.methodLink "NeedMachineLaw" (64 : Nat) ({ cls := "NeedMachineModel", name := "number", desc := "()I" } : Jvm.MethodName)) ∈ zm_tb := zm_memT5 13 rfl
theorem zw_974 : (Jvm.Cond.instanceMethod ({ cls := "NeedMachineModel", name := "number", desc := "()I" } : Jvm.MethodName)) ∈ zm_tb := zm_memT5 14 rfl
theorem zw_975 : (Jvm.Cond.selects "NeedMachineModel" ({ cls := "NeedMachineModel", name := "number", desc := "()I" } : Jvm.MethodName) ({ cls := "NeedMachineModel", name := "number", desc := "()I" } : Jvm.MethodName)) ∈ zm_tb := zm_memT5 15 rfl
theorem zw_976 : (Jvm.Cond.code ({ cls := "NeedMachineModel", name := "number", desc := "()I" } : Jvm.MethodName) prog_10_method_33_code (1 : Nat) (Option.some Jvm.ClassFile.FieldType.int)) ∈ zm_tb := zm_memT5 16 rfl
theorem zw_977 : (Jvm.Cond.methodLink "NeedMachineLaw" (67 : Nat) ({ cls := "NeedMachineModel", name := "head", desc := "()I" } : Jvm.MethodName)) ∈ zm_tb := zm_memT5 17 rfl
theorem zw_978 : (Jvm.Cond.instanceMethod ({ cls := "NeedMachineModel", name := "head", desc := "()I" } : Jvm.MethodName)) ∈ zm_tb := zm_memT5 18 rfl
theorem zw_979 : (Jvm.Cond.selects "NeedMachineModel" ({ cls := "NeedMachineModel", name := "head", desc := "()I" } : Jvm.MethodName) ({ cls := "NeedMachineModel", name := "head", desc := "()I" } : Jvm.MethodName)) ∈ zm_tb := zm_memT5 19 rfl
theorem zw_980 : (Jvm.Cond.code ({ cls := "NeedMachineModel", name := "head", desc := "()I" } : Jvm.MethodName) prog_10_method_35_code (1 : Nat) (Option.some Jvm.ClassFile.FieldType.int)) ∈ zm_tb := zm_memT5 20 rfl
theorem zw_981 : (Jvm.Cond.methodLink "NeedMachineModel" (238 : Nat) ({ cls := "NeedMachineModel", name := "side", desc := "(Z)Z" } : Jvm.MethodName)) ∈ zm_tb := zm_memT5 21 rfl
theorem zw_983 : (Jvm.Cond.instanceMethod ({ cls := "NeedMachineModel", name := "side", desc := "(Z)Z" } : Jvm.MethodName)) ∈ zm_tb := zm_memT5 23 rfl
theorem zw_984 : (Jvm.Cond.code ({ cls := "NeedMachineModel", name := "side", desc := "(Z)Z" } : Jvm.MethodName) prog_10_method_34_code (3 : Nat) (Option.some Jvm.ClassFile.FieldType.boolean)) ∈ zm_tb := zm_memT5 24 rfl
theorem zw_985 : (Jvm.Cond.methodLink "NeedMachineLaw" (70 : Nat) ({ cls := "NeedMachineModel", name := "tail", desc := "()I" } : Jvm.MethodName)) ∈ zm_tb := zm_memT5 25 rfl
theorem zw_986 : (Jvm.Cond.instanceMethod ({ cls := "NeedMachineModel", name := "tail", desc := "()I" } : Jvm.MethodName)) ∈ zm_tb := zm_memT5 26 rfl
theorem zw_987 : (Jvm.Cond.selects "NeedMachineModel" ({ cls := "NeedMachineModel", name := "tail", desc := "()I" } : Jvm.MethodName) ({ cls := "NeedMachineModel", name := "tail", desc := "()I" } : Jvm.MethodName)) ∈ zm_tb := zm_memT5 27 rfl
theorem zw_988 : (Jvm.Cond.code ({ cls := "NeedMachineModel", name := "tail", desc := "()I" } : Jvm.MethodName) prog_10_method_36_code (1 : Nat) (Option.some Jvm.ClassFile.FieldType.int)) ∈ zm_tb := zm_memT5 28 rfl
theorem zw_989 : (Jvm.Cond.methodLink "NeedMachineLaw" (74 : Nat) ({ cls := "NeedMachineModel", name := "remove", desc := "(I)V" } : Jvm.MethodName)) ∈ zm_tb := zm_memT5 29 rfl
theorem zw_990 : (Jvm.Cond.instanceMethod ({ cls := "NeedMachineModel", name := "remove", desc := "(I)V" } : Jvm.MethodName)) ∈ zm_tb := zm_memT5 30 rfl
theorem zw_991 : (Jvm.Cond.selects "NeedMachineModel" ({ cls := "NeedMachineModel", name := "remove", desc := "(I)V" } : Jvm.MethodName) ({ cls := "NeedMachineModel", name := "remove", desc := "(I)V" } : Jvm.MethodName)) ∈ zm_tb := zm_memT5 31 rfl
theorem zw_992 : (Jvm.Cond.code ({ cls := "NeedMachineModel", name := "remove", desc := "(I)V" } : Jvm.MethodName) prog_10_method_37_code (2 : Nat) (Option.none : Option Jvm.ClassFile.FieldType)) ∈ zm_tb := zm_memT5 32 rfl
theorem zw_993 : (Jvm.Cond.methodLink "NeedMachineLaw" (79 : Nat) ({ cls := "NeedMachineModel", name := "count", desc := "(I)I" } : Jvm.MethodName)) ∈ zm_tb := zm_memT5 33 rfl
theorem zw_994 : (Jvm.Cond.instanceMethod ({ cls := "NeedMachineModel", name := "count", desc := "(I)I" } : Jvm.MethodName)) ∈ zm_tb := zm_memT5 34 rfl
theorem zw_995 : (Jvm.Cond.selects "NeedMachineModel" ({ cls := "NeedMachineModel", name := "count", desc := "(I)I" } : Jvm.MethodName) ({ cls := "NeedMachineModel", name := "count", desc := "(I)I" } : Jvm.MethodName)) ∈ zm_tb := zm_memT5 35 rfl
theorem zw_996 : (Jvm.Cond.code ({ cls := "NeedMachineModel", name := "count", desc := "(I)I" } : Jvm.MethodName) prog_10_method_38_code (4 : Nat) (Option.some Jvm.ClassFile.FieldType.int)) ∈ zm_tb := zm_memT5 36 rfl
theorem zw_997 : (Jvm.Cond.constantLong "NeedMachineLaw" (47 : Nat) (4294967295 : Int64)) ∈ zm_tb := zm_memT5 37 rfl
theorem zw_998 : (Jvm.Cond.arrayClass Jvm.ClassFile.FieldType.long) ∈ zm_tb := zm_memT5 38 rfl
theorem zw_1004 : (Jvm.Cond.selects "[Ljava/lang/Object;" ({ cls := "java/lang/Object", name := "getClass", desc := "()Ljava/lang/Class;" } : Jvm.MethodName) ({ cls := "java/lang/Object", name := "getClass", desc := "()Ljava/lang/Class;" } : Jvm.MethodName)) ∈ zm_tb := zm_memT5 44 rfl
theorem zw_1005 : (Jvm.Cond.declares ({ cls := "java/lang/Object", name := "getClass", desc := "()Ljava/lang/Class;" } : Jvm.MethodName)) ∈ zm_tb := zm_memT5 45 rfl
theorem zm_f0 : (∀ w ∈ u_ws "NeedMachine" zm_T0 9, w ∈ zm_tb) ∧ (∀ k, k < 9 → parseFieldDescriptor (zm_T0 k).2.2.1 = some (zm_fty 0 k)) ∧ ∀ a, a < 9 → ∀ b, b < 9 → a ≠ b → (zm_T0 a).2.1 ≠ (zm_T0 b).2.1 := ⟨by decide +kernel, by decide +kernel, by decide +kernel⟩
theorem zm_f1 : (∀ w ∈ u_ws "NeedMachine$Text" zm_T1 8, w ∈ zm_tb) ∧ (∀ k, k < 8 → parseFieldDescriptor (zm_T1 k).2.2.1 = some (zm_fty 1 k)) ∧ ∀ a, a < 8 → ∀ b, b < 8 → a ≠ b → (zm_T1 a).2.1 ≠ (zm_T1 b).2.1 := ⟨by decide +kernel, by decide +kernel, by decide +kernel⟩
theorem zm_f2 : (∀ w ∈ u_ws "NeedMachine$Store" zm_T2 7, w ∈ zm_tb) ∧ (∀ k, k < 7 → parseFieldDescriptor (zm_T2 k).2.2.1 = some (zm_fty 2 k)) ∧ ∀ a, a < 7 → ∀ b, b < 7 → a ≠ b → (zm_T2 a).2.1 ≠ (zm_T2 b).2.1 := ⟨by decide +kernel, by decide +kernel, by decide +kernel⟩
theorem zm_f3 : (∀ w ∈ u_ws "NeedMachine$Value" zm_T3 5, w ∈ zm_tb) ∧ (∀ k, k < 5 → parseFieldDescriptor (zm_T3 k).2.2.1 = some (zm_fty 3 k)) ∧ ∀ a, a < 5 → ∀ b, b < 5 → a ≠ b → (zm_T3 a).2.1 ≠ (zm_T3 b).2.1 := ⟨by decide +kernel, by decide +kernel, by decide +kernel⟩
theorem zm_f4 : (∀ w ∈ u_ws "java/util/ArrayList" zm_T4 3, w ∈ zm_tb) ∧ (∀ k, k < 3 → parseFieldDescriptor (zm_T4 k).2.2.1 = some (zm_fty 4 k)) ∧ ∀ a, a < 3 → ∀ b, b < 3 → a ≠ b → (zm_T4 a).2.1 ≠ (zm_T4 b).2.1 := ⟨by decide +kernel, by decide +kernel, by decide +kernel⟩
theorem zm_f5 : (∀ w ∈ u_ws "NeedMachineModel" zm_T5 44, w ∈ zm_tb) ∧ (∀ k, k < 44 → parseFieldDescriptor (zm_T5 k).2.2.1 = some (zm_fty 5 k)) ∧ ∀ a, a < 44 → ∀ b, b < 44 → a ≠ b → (zm_T5 a).2.1 ≠ (zm_T5 b).2.1 := ⟨by decide +kernel, by decide +kernel, by decide +kernel⟩
theorem zm_f6 : (∀ w ∈ u_ws "NeedMachine$Definition" zm_T6 3, w ∈ zm_tb) ∧ (∀ k, k < 3 → parseFieldDescriptor (zm_T6 k).2.2.1 = some (zm_fty 6 k)) ∧ ∀ a, a < 3 → ∀ b, b < 3 → a ≠ b → (zm_T6 a).2.1 ≠ (zm_T6 b).2.1 := ⟨by decide +kernel, by decide +kernel, by decide +kernel⟩
theorem zm_f7 : (∀ w ∈ u_ws "NeedMachine$Expression" zm_T7 5, w ∈ zm_tb) ∧ (∀ k, k < 5 → parseFieldDescriptor (zm_T7 k).2.2.1 = some (zm_fty 7 k)) ∧ ∀ a, a < 5 → ∀ b, b < 5 → a ≠ b → (zm_T7 a).2.1 ≠ (zm_T7 b).2.1 := ⟨by decide +kernel, by decide +kernel, by decide +kernel⟩
theorem zm_f8 : (∀ w ∈ u_ws "NeedMachine$Closure" zm_T8 4, w ∈ zm_tb) ∧ (∀ k, k < 4 → parseFieldDescriptor (zm_T8 k).2.2.1 = some (zm_fty 8 k)) ∧ ∀ a, a < 4 → ∀ b, b < 4 → a ≠ b → (zm_T8 a).2.1 ≠ (zm_T8 b).2.1 := ⟨by decide +kernel, by decide +kernel, by decide +kernel⟩
theorem zm_f9 : (∀ w ∈ u_ws "NeedMachine$Arguments" zm_T9 3, w ∈ zm_tb) ∧ (∀ k, k < 3 → parseFieldDescriptor (zm_T9 k).2.2.1 = some (zm_fty 9 k)) ∧ ∀ a, a < 3 → ∀ b, b < 3 → a ≠ b → (zm_T9 a).2.1 ≠ (zm_T9 b).2.1 := ⟨by decide +kernel, by decide +kernel, by decide +kernel⟩
