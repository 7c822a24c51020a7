section
/-- a private method of a class that the tables say can be made, by its rows of tables_1 -/
def lw_okq (q : MethodName × Nat) : Prop := (q.1.cls ≠ "java/lang/invoke/MethodHandle" ∧ q.1.cls ≠ "java/lang/invoke/VarHandle") ∧ Cond.instantiable q.1.cls q.2 ∈ tables_1 ∧ Cond.privateMethod q.1 ∈ tables_1 ∧ Cond.instanceMethod q.1 ∈ tables_1
theorem lw_p0 : lw_okq (⟨"NeedMachine", "countDefinitions", "()I"⟩, 9) := ⟨⟨by decide +kernel, by decide +kernel⟩, List.mem_of_getElem? (i := 28) (by decide +kernel), List.mem_of_getElem? (i := 186) (by decide +kernel), List.mem_of_getElem? (i := 187) (by decide +kernel)⟩
theorem lw_p1 : lw_okq (⟨"java/lang/Throwable", "fillInStackTrace", "(I)Ljava/lang/Throwable;"⟩, 6) := ⟨⟨by decide +kernel, by decide +kernel⟩, List.mem_of_getElem? (i := 246) (by decide +kernel), List.mem_of_getElem? (i := 244) (by decide +kernel), List.mem_of_getElem? (i := 245) (by decide +kernel)⟩
theorem lw_p2 : lw_okq (⟨"NeedMachine$Text", "beginReading", "()V"⟩, 8) := ⟨⟨by decide +kernel, by decide +kernel⟩, List.mem_of_getElem? (i := 36) (by decide +kernel), List.mem_of_getElem? (i := 303) (by decide +kernel), List.mem_of_getElem? (i := 304) (by decide +kernel)⟩
theorem lw_p3 : lw_okq (⟨"NeedMachine$Text", "refuseUnless", "(Z)V"⟩, 8) := ⟨⟨by decide +kernel, by decide +kernel⟩, List.mem_of_getElem? (i := 36) (by decide +kernel), List.mem_of_getElem? (i := 310) (by decide +kernel), List.mem_of_getElem? (i := 311) (by decide +kernel)⟩
theorem lw_p4 : lw_okq (⟨"NeedMachine$Text", "readParameters", "()V"⟩, 8) := ⟨⟨by decide +kernel, by decide +kernel⟩, List.mem_of_getElem? (i := 36) (by decide +kernel), List.mem_of_getElem? (i := 315) (by decide +kernel), List.mem_of_getElem? (i := 316) (by decide +kernel)⟩
theorem lw_p5 : lw_okq (⟨"NeedMachine$Text", "isNewParameter", "(C)Z"⟩, 8) := ⟨⟨by decide +kernel, by decide +kernel⟩, List.mem_of_getElem? (i := 36) (by decide +kernel), List.mem_of_getElem? (i := 319) (by decide +kernel), List.mem_of_getElem? (i := 320) (by decide +kernel)⟩
theorem lw_p6 : lw_okq (⟨"NeedMachine$Text", "parameterIndex", "(C)I"⟩, 8) := ⟨⟨by decide +kernel, by decide +kernel⟩, List.mem_of_getElem? (i := 36) (by decide +kernel), List.mem_of_getElem? (i := 323) (by decide +kernel), List.mem_of_getElem? (i := 324) (by decide +kernel)⟩
theorem lw_p7 : lw_okq (⟨"NeedMachine$Text", "readToTheEnd", "()LNeedMachine$Expression;"⟩, 8) := ⟨⟨by decide +kernel, by decide +kernel⟩, List.mem_of_getElem? (i := 36) (by decide +kernel), List.mem_of_getElem? (i := 329) (by decide +kernel), List.mem_of_getElem? (i := 330) (by decide +kernel)⟩
theorem lw_p8 : lw_okq (⟨"NeedMachine$Text", "readExpression", "(I)LNeedMachine$Expression;"⟩, 8) := ⟨⟨by decide +kernel, by decide +kernel⟩, List.mem_of_getElem? (i := 36) (by decide +kernel), List.mem_of_getElem? (i := 333) (by decide +kernel), List.mem_of_getElem? (i := 334) (by decide +kernel)⟩
theorem lw_p9 : lw_okq (⟨"NeedMachine$Text", "canStand", "(CI)Z"⟩, 8) := ⟨⟨by decide +kernel, by decide +kernel⟩, List.mem_of_getElem? (i := 36) (by decide +kernel), List.mem_of_getElem? (i := 337) (by decide +kernel), List.mem_of_getElem? (i := 338) (by decide +kernel)⟩
theorem lw_p10 : lw_okq (⟨"NeedMachine$Text", "isLeaf", "(C)Z"⟩, 8) := ⟨⟨by decide +kernel, by decide +kernel⟩, List.mem_of_getElem? (i := 36) (by decide +kernel), List.mem_of_getElem? (i := 344) (by decide +kernel), List.mem_of_getElem? (i := 345) (by decide +kernel)⟩
theorem lw_p11 : lw_okq (⟨"NeedMachine$Text", "readLeaf", "(C)LNeedMachine$Expression;"⟩, 8) := ⟨⟨by decide +kernel, by decide +kernel⟩, List.mem_of_getElem? (i := 36) (by decide +kernel), List.mem_of_getElem? (i := 351) (by decide +kernel), List.mem_of_getElem? (i := 352) (by decide +kernel)⟩
theorem lw_p12 : lw_okq (⟨"NeedMachine", "work", "(LNeedMachine$Expression;LNeedMachine$Arguments;I)LNeedMachine$Value;"⟩, 9) := ⟨⟨by decide +kernel, by decide +kernel⟩, List.mem_of_getElem? (i := 28) (by decide +kernel), List.mem_of_getElem? (i := 417) (by decide +kernel), List.mem_of_getElem? (i := 418) (by decide +kernel)⟩
theorem lw_p13 : lw_okq (⟨"NeedMachine$Store", "nextValue", "(I)LNeedMachine$Value;"⟩, 7) := ⟨⟨by decide +kernel, by decide +kernel⟩, List.mem_of_getElem? (i := 70) (by decide +kernel), List.mem_of_getElem? (i := 431) (by decide +kernel), List.mem_of_getElem? (i := 432) (by decide +kernel)⟩
theorem lw_p14 : lw_okq (⟨"java/util/ArrayList", "add", "(Ljava/lang/Object;[Ljava/lang/Object;I)V"⟩, 3) := ⟨⟨by decide +kernel, by decide +kernel⟩, List.mem_of_getElem? (i := 103) (by decide +kernel), List.mem_of_getElem? (i := 443) (by decide +kernel), List.mem_of_getElem? (i := 444) (by decide +kernel)⟩
theorem lw_p15 : lw_okq (⟨"java/util/ArrayList", "grow", "()[Ljava/lang/Object;"⟩, 3) := ⟨⟨by decide +kernel, by decide +kernel⟩, List.mem_of_getElem? (i := 103) (by decide +kernel), List.mem_of_getElem? (i := 447) (by decide +kernel), List.mem_of_getElem? (i := 448) (by decide +kernel)⟩
def lw_privs_1 : List (MethodName × Nat) := [(⟨"NeedMachine", "countDefinitions", "()I"⟩, 9), (⟨"java/lang/Throwable", "fillInStackTrace", "(I)Ljava/lang/Throwable;"⟩, 6), (⟨"NeedMachine$Text", "beginReading", "()V"⟩, 8), (⟨"NeedMachine$Text", "refuseUnless", "(Z)V"⟩, 8), (⟨"NeedMachine$Text", "readParameters", "()V"⟩, 8), (⟨"NeedMachine$Text", "isNewParameter", "(C)Z"⟩, 8), (⟨"NeedMachine$Text", "parameterIndex", "(C)I"⟩, 8), (⟨"NeedMachine$Text", "readToTheEnd", "()LNeedMachine$Expression;"⟩, 8), (⟨"NeedMachine$Text", "readExpression", "(I)LNeedMachine$Expression;"⟩, 8), (⟨"NeedMachine$Text", "canStand", "(CI)Z"⟩, 8), (⟨"NeedMachine$Text", "isLeaf", "(C)Z"⟩, 8), (⟨"NeedMachine$Text", "readLeaf", "(C)LNeedMachine$Expression;"⟩, 8), (⟨"NeedMachine", "work", "(LNeedMachine$Expression;LNeedMachine$Arguments;I)LNeedMachine$Value;"⟩, 9), (⟨"NeedMachine$Store", "nextValue", "(I)LNeedMachine$Value;"⟩, 7), (⟨"java/util/ArrayList", "add", "(Ljava/lang/Object;[Ljava/lang/Object;I)V"⟩, 3), (⟨"java/util/ArrayList", "grow", "()[Ljava/lang/Object;"⟩, 3)]
theorem lw_r1 : ∀ q ∈ lw_privs_1, lw_okq q := List.forall_mem_cons.mpr ⟨lw_p0, List.forall_mem_cons.mpr ⟨lw_p1, List.forall_mem_cons.mpr ⟨lw_p2, List.forall_mem_cons.mpr ⟨lw_p3, List.forall_mem_cons.mpr ⟨lw_p4, List.forall_mem_cons.mpr ⟨lw_p5, List.forall_mem_cons.mpr ⟨lw_p6, List.forall_mem_cons.mpr ⟨lw_p7, List.forall_mem_cons.mpr ⟨lw_p8, List.forall_mem_cons.mpr ⟨lw_p9, List.forall_mem_cons.mpr ⟨lw_p10, List.forall_mem_cons.mpr ⟨lw_p11, List.forall_mem_cons.mpr ⟨lw_p12, List.forall_mem_cons.mpr ⟨lw_p13, List.forall_mem_cons.mpr ⟨lw_p14, List.forall_mem_cons.mpr ⟨lw_p15, fun _ h => absurd h List.not_mem_nil⟩⟩⟩⟩⟩⟩⟩⟩⟩⟩⟩⟩⟩⟩⟩⟩
theorem lw_p16 : lw_okq (⟨"java/util/ArrayList", "grow", "(I)[Ljava/lang/Object;"⟩, 3) := ⟨⟨by decide +kernel, by decide +kernel⟩, List.mem_of_getElem? (i := 103) (by decide +kernel), List.mem_of_getElem? (i := 451) (by decide +kernel), List.mem_of_getElem? (i := 452) (by decide +kernel)⟩
theorem lw_p17 : lw_okq (⟨"NeedMachine", "force", "(LNeedMachine$Closure;I)LNeedMachine$Value;"⟩, 9) := ⟨⟨by decide +kernel, by decide +kernel⟩, List.mem_of_getElem? (i := 28) (by decide +kernel), List.mem_of_getElem? (i := 517) (by decide +kernel), List.mem_of_getElem? (i := 518) (by decide +kernel)⟩
theorem lw_p18 : lw_okq (⟨"NeedMachine", "workName", "(II)LNeedMachine$Value;"⟩, 9) := ⟨⟨by decide +kernel, by decide +kernel⟩, List.mem_of_getElem? (i := 28) (by decide +kernel), List.mem_of_getElem? (i := 525) (by decide +kernel), List.mem_of_getElem? (i := 526) (by decide +kernel)⟩
theorem lw_p19 : lw_okq (⟨"NeedMachine", "definitionOf", "(I)LNeedMachine$Definition;"⟩, 9) := ⟨⟨by decide +kernel, by decide +kernel⟩, List.mem_of_getElem? (i := 28) (by decide +kernel), List.mem_of_getElem? (i := 529) (by decide +kernel), List.mem_of_getElem? (i := 530) (by decide +kernel)⟩
theorem lw_p20 : lw_okq (⟨"NeedMachine", "call", "(LNeedMachine$Definition;LNeedMachine$Arguments;I)LNeedMachine$Value;"⟩, 9) := ⟨⟨by decide +kernel, by decide +kernel⟩, List.mem_of_getElem? (i := 28) (by decide +kernel), List.mem_of_getElem? (i := 549) (by decide +kernel), List.mem_of_getElem? (i := 550) (by decide +kernel)⟩
theorem lw_p21 : lw_okq (⟨"NeedMachine", "closureOf", "(LNeedMachine$Expression;LNeedMachine$Arguments;)LNeedMachine$Closure;"⟩, 9) := ⟨⟨by decide +kernel, by decide +kernel⟩, List.mem_of_getElem? (i := 28) (by decide +kernel), List.mem_of_getElem? (i := 558) (by decide +kernel), List.mem_of_getElem? (i := 559) (by decide +kernel)⟩
theorem lw_p22 : lw_okq (⟨"NeedMachine", "apply", "(LNeedMachine$Expression;LNeedMachine$Arguments;I)LNeedMachine$Value;"⟩, 9) := ⟨⟨by decide +kernel, by decide +kernel⟩, List.mem_of_getElem? (i := 28) (by decide +kernel), List.mem_of_getElem? (i := 593) (by decide +kernel), List.mem_of_getElem? (i := 594) (by decide +kernel)⟩
theorem lw_p23 : lw_okq (⟨"NeedMachine", "choose", "(LNeedMachine$Expression;LNeedMachine$Arguments;I)LNeedMachine$Value;"⟩, 9) := ⟨⟨by decide +kernel, by decide +kernel⟩, List.mem_of_getElem? (i := 28) (by decide +kernel), List.mem_of_getElem? (i := 645) (by decide +kernel), List.mem_of_getElem? (i := 646) (by decide +kernel)⟩
theorem lw_p24 : lw_okq (⟨"NeedMachine", "reckon", "(LNeedMachine$Expression;LNeedMachine$Arguments;I)LNeedMachine$Value;"⟩, 9) := ⟨⟨by decide +kernel, by decide +kernel⟩, List.mem_of_getElem? (i := 28) (by decide +kernel), List.mem_of_getElem? (i := 653) (by decide +kernel), List.mem_of_getElem? (i := 654) (by decide +kernel)⟩
theorem lw_p25 : lw_okq (⟨"NeedMachine", "takeResultPair", "()LNeedMachine$Value;"⟩, 9) := ⟨⟨by decide +kernel, by decide +kernel⟩, List.mem_of_getElem? (i := 28) (by decide +kernel), List.mem_of_getElem? (i := 694) (by decide +kernel), List.mem_of_getElem? (i := 695) (by decide +kernel)⟩
theorem lw_p26 : lw_okq (⟨"NeedMachineModel", "bad", "(Z)Z"⟩, 44) := ⟨⟨by decide +kernel, by decide +kernel⟩, List.mem_of_getElem? (i := 715) (by decide +kernel), List.mem_of_getElem? (i := 867) (by decide +kernel), List.mem_of_getElem? (i := 868) (by decide +kernel)⟩
theorem lw_p27 : lw_okq (⟨"NeedMachineModel", "fail", "(I)I"⟩, 44) := ⟨⟨by decide +kernel, by decide +kernel⟩, List.mem_of_getElem? (i := 715) (by decide +kernel), List.mem_of_getElem? (i := 871) (by decide +kernel), List.mem_of_getElem? (i := 872) (by decide +kernel)⟩
theorem lw_p28 : lw_okq (⟨"NeedMachineModel", "heading", "([I)I"⟩, 44) := ⟨⟨by decide +kernel, by decide +kernel⟩, List.mem_of_getElem? (i := 715) (by decide +kernel), List.mem_of_getElem? (i := 879) (by decide +kernel), List.mem_of_getElem? (i := 880) (by decide +kernel)⟩
theorem lw_p29 : lw_okq (⟨"NeedMachineModel", "look", "()I"⟩, 44) := ⟨⟨by decide +kernel, by decide +kernel⟩, List.mem_of_getElem? (i := 715) (by decide +kernel), List.mem_of_getElem? (i := 883) (by decide +kernel), List.mem_of_getElem? (i := 884) (by decide +kernel)⟩
theorem lw_p30 : lw_okq (⟨"NeedMachineModel", "read", "(I)Z"⟩, 44) := ⟨⟨by decide +kernel, by decide +kernel⟩, List.mem_of_getElem? (i := 715) (by decide +kernel), List.mem_of_getElem? (i := 887) (by decide +kernel), List.mem_of_getElem? (i := 888) (by decide +kernel)⟩
theorem lw_p31 : lw_okq (⟨"NeedMachineModel", "store", "(I)I"⟩, 44) := ⟨⟨by decide +kernel, by decide +kernel⟩, List.mem_of_getElem? (i := 715) (by decide +kernel), List.mem_of_getElem? (i := 894) (by decide +kernel), List.mem_of_getElem? (i := 895) (by decide +kernel)⟩
def lw_privs_2 : List (MethodName × Nat) := [(⟨"java/util/ArrayList", "grow", "(I)[Ljava/lang/Object;"⟩, 3), (⟨"NeedMachine", "force", "(LNeedMachine$Closure;I)LNeedMachine$Value;"⟩, 9), (⟨"NeedMachine", "workName", "(II)LNeedMachine$Value;"⟩, 9), (⟨"NeedMachine", "definitionOf", "(I)LNeedMachine$Definition;"⟩, 9), (⟨"NeedMachine", "call", "(LNeedMachine$Definition;LNeedMachine$Arguments;I)LNeedMachine$Value;"⟩, 9), (⟨"NeedMachine", "closureOf", "(LNeedMachine$Expression;LNeedMachine$Arguments;)LNeedMachine$Closure;"⟩, 9), (⟨"NeedMachine", "apply", "(LNeedMachine$Expression;LNeedMachine$Arguments;I)LNeedMachine$Value;"⟩, 9), (⟨"NeedMachine", "choose", "(LNeedMachine$Expression;LNeedMachine$Arguments;I)LNeedMachine$Value;"⟩, 9), (⟨"NeedMachine", "reckon", "(LNeedMachine$Expression;LNeedMachine$Arguments;I)LNeedMachine$Value;"⟩, 9), (⟨"NeedMachine", "takeResultPair", "()LNeedMachine$Value;"⟩, 9), (⟨"NeedMachineModel", "bad", "(Z)Z"⟩, 44), (⟨"NeedMachineModel", "fail", "(I)I"⟩, 44), (⟨"NeedMachineModel", "heading", "([I)I"⟩, 44), (⟨"NeedMachineModel", "look", "()I"⟩, 44), (⟨"NeedMachineModel", "read", "(I)Z"⟩, 44), (⟨"NeedMachineModel", "store", "(I)I"⟩, 44)]
theorem lw_r2 : ∀ q ∈ lw_privs_2, lw_okq q := List.forall_mem_cons.mpr ⟨lw_p16, List.forall_mem_cons.mpr ⟨lw_p17, List.forall_mem_cons.mpr ⟨lw_p18, List.forall_mem_cons.mpr ⟨lw_p19, List.forall_mem_cons.mpr ⟨lw_p20, List.forall_mem_cons.mpr ⟨lw_p21, List.forall_mem_cons.mpr ⟨lw_p22, List.forall_mem_cons.mpr ⟨lw_p23, List.forall_mem_cons.mpr ⟨lw_p24, List.forall_mem_cons.mpr ⟨lw_p25, List.forall_mem_cons.mpr ⟨lw_p26, List.forall_mem_cons.mpr ⟨lw_p27, List.forall_mem_cons.mpr ⟨lw_p28, List.forall_mem_cons.mpr ⟨lw_p29, List.forall_mem_cons.mpr ⟨lw_p30, List.forall_mem_cons.mpr ⟨lw_p31, fun _ h => absurd h List.not_mem_nil⟩⟩⟩⟩⟩⟩⟩⟩⟩⟩⟩⟩⟩⟩⟩⟩
theorem lw_p32 : lw_okq (⟨"NeedMachineModel", "sweep", "()V"⟩, 44) := ⟨⟨by decide +kernel, by decide +kernel⟩, List.mem_of_getElem? (i := 715) (by decide +kernel), List.mem_of_getElem? (i := 902) (by decide +kernel), List.mem_of_getElem? (i := 903) (by decide +kernel)⟩
theorem lw_p33 : lw_okq (⟨"NeedMachineModel", "skip", "(I)I"⟩, 44) := ⟨⟨by decide +kernel, by decide +kernel⟩, List.mem_of_getElem? (i := 715) (by decide +kernel), List.mem_of_getElem? (i := 906) (by decide +kernel), List.mem_of_getElem? (i := 907) (by decide +kernel)⟩
theorem lw_p34 : lw_okq (⟨"NeedMachineModel", "workOut", "(II)V"⟩, 44) := ⟨⟨by decide +kernel, by decide +kernel⟩, List.mem_of_getElem? (i := 715) (by decide +kernel), List.mem_of_getElem? (i := 910) (by decide +kernel), List.mem_of_getElem? (i := 911) (by decide +kernel)⟩
theorem lw_p35 : lw_okq (⟨"NeedMachineModel", "push", "(II)V"⟩, 44) := ⟨⟨by decide +kernel, by decide +kernel⟩, List.mem_of_getElem? (i := 715) (by decide +kernel), List.mem_of_getElem? (i := 914) (by decide +kernel), List.mem_of_getElem? (i := 915) (by decide +kernel)⟩
theorem lw_p36 : lw_okq (⟨"NeedMachineModel", "step", "()V"⟩, 44) := ⟨⟨by decide +kernel, by decide +kernel⟩, List.mem_of_getElem? (i := 715) (by decide +kernel), List.mem_of_getElem? (i := 918) (by decide +kernel), List.mem_of_getElem? (i := 919) (by decide +kernel)⟩
theorem lw_p37 : lw_okq (⟨"NeedMachineModel", "keepValue", "()V"⟩, 44) := ⟨⟨by decide +kernel, by decide +kernel⟩, List.mem_of_getElem? (i := 715) (by decide +kernel), List.mem_of_getElem? (i := 922) (by decide +kernel), List.mem_of_getElem? (i := 923) (by decide +kernel)⟩
theorem lw_p38 : lw_okq (⟨"NeedMachineModel", "giveClosure", "(I)V"⟩, 44) := ⟨⟨by decide +kernel, by decide +kernel⟩, List.mem_of_getElem? (i := 715) (by decide +kernel), List.mem_of_getElem? (i := 926) (by decide +kernel), List.mem_of_getElem? (i := 927) (by decide +kernel)⟩
theorem lw_p39 : lw_okq (⟨"NeedMachineModel", "give", "(III)V"⟩, 44) := ⟨⟨by decide +kernel, by decide +kernel⟩, List.mem_of_getElem? (i := 715) (by decide +kernel), List.mem_of_getElem? (i := 930) (by decide +kernel), List.mem_of_getElem? (i := 931) (by decide +kernel)⟩
theorem lw_p40 : lw_okq (⟨"NeedMachineModel", "goOn", "(II)V"⟩, 44) := ⟨⟨by decide +kernel, by decide +kernel⟩, List.mem_of_getElem? (i := 715) (by decide +kernel), List.mem_of_getElem? (i := 934) (by decide +kernel), List.mem_of_getElem? (i := 935) (by decide +kernel)⟩
theorem lw_p41 : lw_okq (⟨"NeedMachineModel", "apply", "(I)V"⟩, 44) := ⟨⟨by decide +kernel, by decide +kernel⟩, List.mem_of_getElem? (i := 715) (by decide +kernel), List.mem_of_getElem? (i := 938) (by decide +kernel), List.mem_of_getElem? (i := 939) (by decide +kernel)⟩
theorem lw_p42 : lw_okq (⟨"NeedMachineModel", "closureOf", "(II)I"⟩, 44) := ⟨⟨by decide +kernel, by decide +kernel⟩, List.mem_of_getElem? (i := 715) (by decide +kernel), List.mem_of_getElem? (i := 942) (by decide +kernel), List.mem_of_getElem? (i := 943) (by decide +kernel)⟩
theorem lw_p43 : lw_okq (⟨"NeedMachineModel", "parameterOf", "(II)I"⟩, 44) := ⟨⟨by decide +kernel, by decide +kernel⟩, List.mem_of_getElem? (i := 715) (by decide +kernel), List.mem_of_getElem? (i := 946) (by decide +kernel), List.mem_of_getElem? (i := 947) (by decide +kernel)⟩
theorem lw_p44 : lw_okq (⟨"NeedMachineModel", "countOf", "(I)I"⟩, 44) := ⟨⟨by decide +kernel, by decide +kernel⟩, List.mem_of_getElem? (i := 715) (by decide +kernel), List.mem_of_getElem? (i := 950) (by decide +kernel), List.mem_of_getElem? (i := 951) (by decide +kernel)⟩
theorem lw_p45 : lw_okq (⟨"NeedMachineModel", "call", "(III)V"⟩, 44) := ⟨⟨by decide +kernel, by decide +kernel⟩, List.mem_of_getElem? (i := 715) (by decide +kernel), List.mem_of_getElem? (i := 954) (by decide +kernel), List.mem_of_getElem? (i := 955) (by decide +kernel)⟩
theorem lw_p46 : lw_okq (⟨"NeedMachineModel", "force", "(I)V"⟩, 44) := ⟨⟨by decide +kernel, by decide +kernel⟩, List.mem_of_getElem? (i := 715) (by decide +kernel), List.mem_of_getElem? (i := 958) (by decide +kernel), List.mem_of_getElem? (i := 959) (by decide +kernel)⟩
theorem lw_p47 : lw_okq (⟨"NeedMachineModel", "isNumber", "()Z"⟩, 44) := ⟨⟨by decide +kernel, by decide +kernel⟩, List.mem_of_getElem? (i := 715) (by decide +kernel), List.mem_of_getElem? (i := 962) (by decide +kernel), List.mem_of_getElem? (i := 963) (by decide +kernel)⟩
def lw_privs_3 : List (MethodName × Nat) := [(⟨"NeedMachineModel", "sweep", "()V"⟩, 44), (⟨"NeedMachineModel", "skip", "(I)I"⟩, 44), (⟨"NeedMachineModel", "workOut", "(II)V"⟩, 44), (⟨"NeedMachineModel", "push", "(II)V"⟩, 44), (⟨"NeedMachineModel", "step", "()V"⟩, 44), (⟨"NeedMachineModel", "keepValue", "()V"⟩, 44), (⟨"NeedMachineModel", "giveClosure", "(I)V"⟩, 44), (⟨"NeedMachineModel", "give", "(III)V"⟩, 44), (⟨"NeedMachineModel", "goOn", "(II)V"⟩, 44), (⟨"NeedMachineModel", "apply", "(I)V"⟩, 44), (⟨"NeedMachineModel", "closureOf", "(II)I"⟩, 44), (⟨"NeedMachineModel", "parameterOf", "(II)I"⟩, 44), (⟨"NeedMachineModel", "countOf", "(I)I"⟩, 44), (⟨"NeedMachineModel", "call", "(III)V"⟩, 44), (⟨"NeedMachineModel", "force", "(I)V"⟩, 44), (⟨"NeedMachineModel", "isNumber", "()Z"⟩, 44)]
theorem lw_r3 : ∀ q ∈ lw_privs_3, lw_okq q := List.forall_mem_cons.mpr ⟨lw_p32, List.forall_mem_cons.mpr ⟨lw_p33, List.forall_mem_cons.mpr ⟨lw_p34, List.forall_mem_cons.mpr ⟨lw_p35, List.forall_mem_cons.mpr ⟨lw_p36, List.forall_mem_cons.mpr ⟨lw_p37, List.forall_mem_cons.mpr ⟨lw_p38, List.forall_mem_cons.mpr ⟨lw_p39, List.forall_mem_cons.mpr ⟨lw_p40, List.forall_mem_cons.mpr ⟨lw_p41, List.forall_mem_cons.mpr ⟨lw_p42, List.forall_mem_cons.mpr ⟨lw_p43, List.forall_mem_cons.mpr ⟨lw_p44, List.forall_mem_cons.mpr ⟨lw_p45, List.forall_mem_cons.mpr ⟨lw_p46, List.forall_mem_cons.mpr ⟨lw_p47, fun _ h => absurd h List.not_mem_nil⟩⟩⟩⟩⟩⟩⟩⟩⟩⟩⟩⟩⟩⟩⟩⟩
theorem lw_p48 : lw_okq (⟨"NeedMachineModel", "binary", "(III)I"⟩, 44) := ⟨⟨by decide +kernel, by decide +kernel⟩, List.mem_of_getElem? (i := 715) (by decide +kernel), List.mem_of_getElem? (i := 966) (by decide +kernel), List.mem_of_getElem? (i := 967) (by decide +kernel)⟩
theorem lw_p49 : lw_okq (⟨"NeedMachineModel", "nameAt", "(I)V"⟩, 44) := ⟨⟨by decide +kernel, by decide +kernel⟩, List.mem_of_getElem? (i := 715) (by decide +kernel), List.mem_of_getElem? (i := 970) (by decide +kernel), List.mem_of_getElem? (i := 971) (by decide +kernel)⟩
theorem lw_p50 : lw_okq (⟨"NeedMachineModel", "answer", "()I"⟩, 44) := ⟨⟨by decide +kernel, by decide +kernel⟩, List.mem_of_getElem? (i := 715) (by decide +kernel), List.mem_of_getElem? (i := 974) (by decide +kernel), List.mem_of_getElem? (i := 975) (by decide +kernel)⟩
theorem lw_p51 : lw_okq (⟨"NeedMachineModel", "side", "(Z)Z"⟩, 44) := ⟨⟨by decide +kernel, by decide +kernel⟩, List.mem_of_getElem? (i := 715) (by decide +kernel), List.mem_of_getElem? (i := 986) (by decide +kernel), List.mem_of_getElem? (i := 987) (by decide +kernel)⟩
def lw_privs_4 : List (MethodName × Nat) := [(⟨"NeedMachineModel", "binary", "(III)I"⟩, 44), (⟨"NeedMachineModel", "nameAt", "(I)V"⟩, 44), (⟨"NeedMachineModel", "answer", "()I"⟩, 44), (⟨"NeedMachineModel", "side", "(Z)Z"⟩, 44)]
theorem lw_r4 : ∀ q ∈ lw_privs_4, lw_okq q := List.forall_mem_cons.mpr ⟨lw_p48, List.forall_mem_cons.mpr ⟨lw_p49, List.forall_mem_cons.mpr ⟨lw_p50, List.forall_mem_cons.mpr ⟨lw_p51, fun _ h => absurd h List.not_mem_nil⟩⟩⟩⟩
def lw_privs : List (MethodName × Nat) := lw_privs_1 ++ (lw_privs_2 ++ (lw_privs_3 ++ (lw_privs_4)))
def lw_tbl : List Cond := k2_sels lw_privs ++ tables_1
theorem lw_privs_ok : ∀ q ∈ lw_privs, lw_okq q := by
  show ∀ q ∈ lw_privs_1 ++ (lw_privs_2 ++ (lw_privs_3 ++ (lw_privs_4))), lw_okq q
  exact List.forall_mem_append.mpr ⟨lw_r1, List.forall_mem_append.mpr ⟨lw_r2, List.forall_mem_append.mpr ⟨lw_r3, lw_r4⟩⟩⟩
-- ===== end of PART A; then your names; then what follows =====
end
section
/-! THE TABLES OF THE SMALL MACHINE, laid by wip/gen/gen.py out of the claim's own listing: 108 methods -/
def zm_no : Nat := 2
def zm_w : Nat := 41
def zm_C : Nat := 600004
def zm_S : Nat := 7302232
def zm_T0 : u_T := fun k => match k with
  | 0 => ("NeedMachine", "text", "LNeedMachine$Text;", true)
  | 1 => ("NeedMachine", "store", "LNeedMachine$Store;", true)
  | 2 => ("NeedMachine", "definitions", "[LNeedMachine$Definition;", true)
  | 3 => ("NeedMachine", "result", "LNeedMachine$Value;", false)
  | 4 => ("NeedMachine", "calls", "I", false)
  | 5 => ("NeedMachine", "callsOfAll", "I", false)
  | 6 => ("NeedMachine", "forcedFirst", "I", false)
  | 7 => ("NeedMachine", "forcedLater", "I", false)
  | 8 => ("NeedMachine", "deepest", "I", false)
  | _ => ("", "", "", false)
def zm_T1 : u_T := fun k => match k with
  | 0 => ("NeedMachine$Text", "length", "I", false)
  | 1 => ("NeedMachine$Text", "badPlace", "I", false)
  | 2 => ("NeedMachine$Text", "characters", "[C", true)
  | 3 => ("NeedMachine$Text", "parameters", "[C", true)
  | 4 => ("NeedMachine$Text", "parametersRead", "I", false)
  | 5 => ("NeedMachine$Text", "end", "I", false)
  | 6 => ("NeedMachine$Text", "place", "I", false)
  | 7 => ("NeedMachine$Text", "owed", "I", false)
  | _ => ("", "", "", false)
def zm_T2 : u_T := fun k => match k with
  | 0 => ("NeedMachine$Store", "nil", "LNeedMachine$Value;", true)
  | 1 => ("NeedMachine$Store", "values", "Ljava/util/ArrayList;", true)
  | 2 => ("NeedMachine$Store", "closures", "Ljava/util/ArrayList;", true)
  | 3 => ("NeedMachine$Store", "chains", "Ljava/util/ArrayList;", true)
  | 4 => ("NeedMachine$Store", "valuesUsed", "I", false)
  | 5 => ("NeedMachine$Store", "closuresUsed", "I", false)
  | 6 => ("NeedMachine$Store", "chainsUsed", "I", false)
  | _ => ("", "", "", false)
def zm_T3 : u_T := fun k => match k with
  | 0 => ("NeedMachine$Value", "kind", "I", false)
  | 1 => ("NeedMachine$Value", "number", "I", false)
  | 2 => ("NeedMachine$Value", "head", "LNeedMachine$Closure;", false)
  | 3 => ("NeedMachine$Value", "tail", "LNeedMachine$Closure;", false)
  | 4 => ("NeedMachine$Value", "arguments", "LNeedMachine$Arguments;", false)
  | _ => ("", "", "", false)
def zm_T4 : u_T := fun k => match k with
  | 0 => ("java/util/ArrayList", "elementData", "[Ljava/lang/Object;", false)
  | 1 => ("java/util/ArrayList", "size", "I", false)
  | 2 => ("java/util/AbstractList", "modCount", "I", false)
  | _ => ("", "", "", false)
def zm_T5 : u_T := fun k => match k with
  | 0 => ("NeedMachineModel", "text", "[I", true)
  | 1 => ("NeedMachineModel", "pool", "[I", true)
  | 2 => ("NeedMachineModel", "spare", "[I", true)
  | 3 => ("NeedMachineModel", "body", "[I", true)
  | 4 => ("NeedMachineModel", "letters", "[I", true)
  | 5 => ("NeedMachineModel", "parameters", "[I", true)
  | 6 => ("NeedMachineModel", "need", "[I", true)
  | 7 => ("NeedMachineModel", "defined", "[Z", true)
  | 8 => ("NeedMachineModel", "size", "I", false)
  | 9 => ("NeedMachineModel", "place", "I", false)
  | 10 => ("NeedMachineModel", "pos", "I", false)
  | 11 => ("NeedMachineModel", "pooled", "I", false)
  | 12 => ("NeedMachineModel", "thrown", "I", false)
  | 13 => ("NeedMachineModel", "expression", "[I", true)
  | 14 => ("NeedMachineModel", "around", "[I", true)
  | 15 => ("NeedMachineModel", "state", "[I", true)
  | 16 => ("NeedMachineModel", "kind", "[I", true)
  | 17 => ("NeedMachineModel", "first", "[I", true)
  | 18 => ("NeedMachineModel", "second", "[I", true)
  | 19 => ("NeedMachineModel", "name", "[I", true)
  | 20 => ("NeedMachineModel", "holds", "[I", true)
  | 21 => ("NeedMachineModel", "argument", "[I", true)
  | 22 => ("NeedMachineModel", "before", "[I", true)
  | 23 => ("NeedMachineModel", "closures", "I", false)
  | 24 => ("NeedMachineModel", "surroundings", "I", false)
  | 25 => ("NeedMachineModel", "arguments", "I", false)
  | 26 => ("NeedMachineModel", "at", "[I", true)
  | 27 => ("NeedMachineModel", "in", "[I", true)
  | 28 => ("NeedMachineModel", "stage", "[I", true)
  | 29 => ("NeedMachineModel", "kept", "[I", true)
  | 30 => ("NeedMachineModel", "forcing", "[I", true)
  | 31 => ("NeedMachineModel", "depth", "I", false)
  | 32 => ("NeedMachineModel", "deepest", "I", false)
  | 33 => ("NeedMachineModel", "callsNow", "I", false)
  | 34 => ("NeedMachineModel", "calls", "I", false)
  | 35 => ("NeedMachineModel", "forced", "I", false)
  | 36 => ("NeedMachineModel", "again", "I", false)
  | 37 => ("NeedMachineModel", "outKind", "I", false)
  | 38 => ("NeedMachineModel", "outFirst", "I", false)
  | 39 => ("NeedMachineModel", "outSecond", "I", false)
  | 40 => ("NeedMachineModel", "resultKind", "I", false)
  | 41 => ("NeedMachineModel", "resultFirst", "I", false)
  | 42 => ("NeedMachineModel", "resultSecond", "I", false)
  | 43 => ("NeedMachineModel", "has", "Z", false)
  | _ => ("", "", "", false)
def zm_T6 : u_T := fun k => match k with
  | 0 => ("NeedMachine$Definition", "name", "I", true)
  | 1 => ("NeedMachine$Definition", "parameters", "I", true)
  | 2 => ("NeedMachine$Definition", "body", "LNeedMachine$Expression;", true)
  | _ => ("", "", "", false)
def zm_T7 : u_T := fun k => match k with
  | 0 => ("NeedMachine$Expression", "sign", "C", true)
  | 1 => ("NeedMachine$Expression", "index", "I", true)
  | 2 => ("NeedMachine$Expression", "first", "LNeedMachine$Expression;", true)
  | 3 => ("NeedMachine$Expression", "second", "LNeedMachine$Expression;", true)
  | 4 => ("NeedMachine$Expression", "third", "LNeedMachine$Expression;", true)
  | _ => ("", "", "", false)
def zm_T8 : u_T := fun k => match k with
  | 0 => ("NeedMachine$Closure", "expression", "LNeedMachine$Expression;", false)
  | 1 => ("NeedMachine$Closure", "given", "LNeedMachine$Arguments;", false)
  | 2 => ("NeedMachine$Closure", "begun", "Z", false)
  | 3 => ("NeedMachine$Closure", "value", "LNeedMachine$Value;", false)
  | _ => ("", "", "", false)
def zm_T9 : u_T := fun k => match k with
  | 0 => ("NeedMachine$Arguments", "before", "LNeedMachine$Arguments;", false)
  | 1 => ("NeedMachine$Arguments", "last", "LNeedMachine$Closure;", false)
  | 2 => ("NeedMachine$Arguments", "size", "I", false)
  | _ => ("", "", "", false)
def zm_cl : List vw_C := [("NeedMachine", zm_T0, 9), ("NeedMachine$Text", zm_T1, 8), ("NeedMachine$Store", zm_T2, 7), ("NeedMachine$Value", zm_T3, 5), ("java/util/ArrayList", zm_T4, 3), ("NeedMachineModel", zm_T5, 44), ("NeedMachine$Definition", zm_T6, 3), ("NeedMachine$Expression", zm_T7, 5), ("NeedMachine$Closure", zm_T8, 4), ("NeedMachine$Arguments", zm_T9, 3)]
def zm_ft : List (List FieldType) := [[.object "NeedMachine$Text", .object "NeedMachine$Store", .array (.object "NeedMachine$Definition"), .object "NeedMachine$Value", .int, .int, .int, .int, .int], [.int, .int, .array .char, .array .char, .int, .int, .int, .int], [.object "NeedMachine$Value", .object "java/util/ArrayList", .object "java/util/ArrayList", .object "java/util/ArrayList", .int, .int, .int], [.int, .int, .object "NeedMachine$Closure", .object "NeedMachine$Closure", .object "NeedMachine$Arguments"], [.array (.object "java/lang/Object"), .int, .int], [.array .int, .array .int, .array .int, .array .int, .array .int, .array .int, .array .int, .array .boolean, .int, .int, .int, .int, .int, .array .int, .array .int, .array .int, .array .int, .array .int, .array .int, .array .int, .array .int, .array .int, .array .int, .int, .int, .int, .array .int, .array .int, .array .int, .array .int, .array .int, .int, .int, .int, .int, .int, .int, .int, .int, .int, .int, .int, .int, .boolean], [.int, .int, .object "NeedMachine$Expression"], [.char, .int, .object "NeedMachine$Expression", .object "NeedMachine$Expression", .object "NeedMachine$Expression"], [.object "NeedMachine$Expression", .object "NeedMachine$Arguments", .boolean, .object "NeedMachine$Value"], [.object "NeedMachine$Arguments", .object "NeedMachine$Closure", .int]]
def zm_aty : List FieldType := [.int, .char, .long, .boolean, .object "NeedMachine$Definition", .object "java/lang/Object"]
/-- statics that are read: the old cell, where it stands -/
def zm_os : List (Nat × String × String × String) := [(1, "java/util/ArrayList", "DEFAULTCAPACITY_EMPTY_ELEMENTDATA", "[Ljava/lang/Object;")]
def zm_sub : List (Nat × Nat) := [(4, 6)]
def zm_xn : List String := ["java/lang/IllegalArgumentException", "java/lang/IllegalStateException", "java/util/NoSuchElementException", "java/lang/UnsupportedOperationException", "java/lang/ArithmeticException"]
/-- words that the start gives beside the tables' -/
def zm_ex : List Cond := [.not (.castable "java/lang/IllegalArgumentException" "java/lang/IllegalStateException"), .not (.castable "java/lang/IllegalArgumentException" "java/util/NoSuchElementException"), .not (.castable "java/lang/IllegalArgumentException" "java/lang/UnsupportedOperationException"), .not (.castable "java/lang/IllegalArgumentException" "java/lang/ArithmeticException"), .not (.castable "java/lang/IllegalStateException" "java/lang/IllegalArgumentException"), .not (.castable "java/lang/IllegalStateException" "java/util/NoSuchElementException"), .not (.castable "java/lang/IllegalStateException" "java/lang/UnsupportedOperationException"), .not (.castable "java/lang/IllegalStateException" "java/lang/ArithmeticException"), .not (.castable "java/util/NoSuchElementException" "java/lang/IllegalArgumentException"), .not (.castable "java/util/NoSuchElementException" "java/lang/IllegalStateException"), .not (.castable "java/util/NoSuchElementException" "java/lang/UnsupportedOperationException"), .not (.castable "java/util/NoSuchElementException" "java/lang/ArithmeticException"), .not (.castable "java/lang/UnsupportedOperationException" "java/lang/IllegalArgumentException"), .not (.castable "java/lang/UnsupportedOperationException" "java/lang/IllegalStateException"), .not (.castable "java/lang/UnsupportedOperationException" "java/util/NoSuchElementException"), .not (.castable "java/lang/UnsupportedOperationException" "java/lang/ArithmeticException"), .not (.castable "java/lang/ArithmeticException" "java/lang/IllegalArgumentException"), .not (.castable "java/lang/ArithmeticException" "java/lang/IllegalStateException"), .not (.castable "java/lang/ArithmeticException" "java/util/NoSuchElementException"), .not (.castable "java/lang/ArithmeticException" "java/lang/UnsupportedOperationException"), .isRef (.static "java/lang/Throwable" "UNASSIGNED_STACK" "[Ljava/lang/StackTraceElement;"), .isRef (.static "java/lang/Throwable" "SUPPRESSED_SENTINEL" "Ljava/util/List;")]
def zm_tb : List Cond := lw_tbl ++ zm_ex
def zm_m0 : MethodName × ByteArray × Nat × Option FieldType × List (Nat × Nat × Nat × Nat) := (⟨"NeedMachineLaw", "law", "([I)Z"⟩, code, 7, ret, [])
def zm_m1 : MethodName × ByteArray × Nat × Option FieldType × List (Nat × Nat × Nat × Nat) := (⟨"NeedMachine", "<init>", "()V"⟩, prog_1_method_1_code, 1, none, [])
def zm_m2 : MethodName × ByteArray × Nat × Option FieldType × List (Nat × Nat × Nat × Nat) := (⟨"java/lang/Object", "<init>", "()V"⟩, object_method_1_code, 1, none, [])
def zm_m3 : MethodName × ByteArray × Nat × Option FieldType × List (Nat × Nat × Nat × Nat) := (⟨"NeedMachine$Text", "<init>", "()V"⟩, prog_7_method_1_code, 1, none, [])
def zm_m4 : MethodName × ByteArray × Nat × Option FieldType × List (Nat × Nat × Nat × Nat) := (⟨"NeedMachine$Store", "<init>", "()V"⟩, prog_6_method_1_code, 1, none, [])
def zm_m5 : MethodName × ByteArray × Nat × Option FieldType × List (Nat × Nat × Nat × Nat) := (⟨"NeedMachine$Value", "<init>", "()V"⟩, prog_8_method_1_code, 1, none, [])
def zm_m6 : MethodName × ByteArray × Nat × Option FieldType × List (Nat × Nat × Nat × Nat) := (⟨"java/util/ArrayList", "<init>", "()V"⟩, prog_26_method_2_code, 1, none, [])
def zm_m7 : MethodName × ByteArray × Nat × Option FieldType × List (Nat × Nat × Nat × Nat) := (⟨"java/util/AbstractList", "<init>", "()V"⟩, prog_25_method_1_code, 1, none, [])
def zm_m8 : MethodName × ByteArray × Nat × Option FieldType × List (Nat × Nat × Nat × Nat) := (⟨"java/util/AbstractCollection", "<init>", "()V"⟩, prog_24_method_1_code, 1, none, [])
def zm_m9 : MethodName × ByteArray × Nat × Option FieldType × List (Nat × Nat × Nat × Nat) := (⟨"NeedMachine", "count", "(I)I"⟩, prog_1_method_9_code, 2, (some .int), [])
def zm_m10 : MethodName × ByteArray × Nat × Option FieldType × List (Nat × Nat × Nat × Nat) := (⟨"NeedMachine", "countDefinitions", "()I"⟩, prog_1_method_10_code, 6, (some .int), [])
def zm_m11 : MethodName × ByteArray × Nat × Option FieldType × List (Nat × Nat × Nat × Nat) := (⟨"NeedMachineLaw", "type", "(LNeedMachine;J[J)I"⟩, method_3_code, 5, (some .int), [(0, 9, 12, 13), (0, 9, 16, 15)])
def zm_m12 : MethodName × ByteArray × Nat × Option FieldType × List (Nat × Nat × Nat × Nat) := (⟨"NeedMachine", "type", "(J)I"⟩, prog_1_method_2_code, 3, (some .int), [])
def zm_m13 : MethodName × ByteArray × Nat × Option FieldType × List (Nat × Nat × Nat × Nat) := (⟨"NeedMachine$Text", "add", "(J)I"⟩, prog_7_method_2_code, 6, (some .int), [])
def zm_m14 : MethodName × ByteArray × Nat × Option FieldType × List (Nat × Nat × Nat × Nat) := (⟨"NeedMachine$Text", "byteAt", "(JI)I"⟩, prog_7_method_3_code, 3, (some .int), [])
def zm_m15 : MethodName × ByteArray × Nat × Option FieldType × List (Nat × Nat × Nat × Nat) := (⟨"NeedMachineLaw", "define", "(LNeedMachine;[J)I"⟩, method_4_code, 3, (some .int), [(0, 8, 11, 13)])
def zm_m16 : MethodName × ByteArray × Nat × Option FieldType × List (Nat × Nat × Nat × Nat) := (⟨"NeedMachine", "define", "()I"⟩, prog_1_method_3_code, 2, (some .int), [])
def zm_m17 : MethodName × ByteArray × Nat × Option FieldType × List (Nat × Nat × Nat × Nat) := (⟨"NeedMachine$Text", "readDefinition", "()LNeedMachine$Definition;"⟩, prog_7_method_4_code, 2, (some (.object "NeedMachine$Definition")), [])
def zm_m18 : MethodName × ByteArray × Nat × Option FieldType × List (Nat × Nat × Nat × Nat) := (⟨"NeedMachine$Text", "beginReading", "()V"⟩, prog_7_method_6_code, 1, none, [])
def zm_m19 : MethodName × ByteArray × Nat × Option FieldType × List (Nat × Nat × Nat × Nat) := (⟨"NeedMachine$Text", "isName", "(C)Z"⟩, prog_7_method_16_code, 1, (some .boolean), [])
def zm_m20 : MethodName × ByteArray × Nat × Option FieldType × List (Nat × Nat × Nat × Nat) := (⟨"NeedMachine$Text", "refuseUnless", "(Z)V"⟩, prog_7_method_18_code, 2, none, [])
def zm_m21 : MethodName × ByteArray × Nat × Option FieldType × List (Nat × Nat × Nat × Nat) := (⟨"NeedMachine$Text", "readParameters", "()V"⟩, prog_7_method_7_code, 1, none, [])
def zm_m22 : MethodName × ByteArray × Nat × Option FieldType × List (Nat × Nat × Nat × Nat) := (⟨"NeedMachine$Text", "isNewParameter", "(C)Z"⟩, prog_7_method_13_code, 2, (some .boolean), [])
def zm_m23 : MethodName × ByteArray × Nat × Option FieldType × List (Nat × Nat × Nat × Nat) := (⟨"NeedMachine$Text", "parameterIndex", "(C)I"⟩, prog_7_method_14_code, 3, (some .int), [])
def zm_m24 : MethodName × ByteArray × Nat × Option FieldType × List (Nat × Nat × Nat × Nat) := (⟨"NeedMachine$Text", "readToTheEnd", "()LNeedMachine$Expression;"⟩, prog_7_method_8_code, 2, (some (.object "NeedMachine$Expression")), [])
def zm_m25 : MethodName × ByteArray × Nat × Option FieldType × List (Nat × Nat × Nat × Nat) := (⟨"NeedMachine$Text", "readExpression", "(I)LNeedMachine$Expression;"⟩, prog_7_method_9_code, 7, (some (.object "NeedMachine$Expression")), [])
def zm_m26 : MethodName × ByteArray × Nat × Option FieldType × List (Nat × Nat × Nat × Nat) := (⟨"NeedMachine$Text", "canStand", "(CI)Z"⟩, prog_7_method_11_code, 4, (some .boolean), [])
def zm_m27 : MethodName × ByteArray × Nat × Option FieldType × List (Nat × Nat × Nat × Nat) := (⟨"NeedMachine$Text", "partsOf", "(C)I"⟩, prog_7_method_17_code, 1, (some .int), [])
def zm_m28 : MethodName × ByteArray × Nat × Option FieldType × List (Nat × Nat × Nat × Nat) := (⟨"NeedMachine$Text", "isLeaf", "(C)Z"⟩, prog_7_method_12_code, 2, (some .boolean), [])
def zm_m29 : MethodName × ByteArray × Nat × Option FieldType × List (Nat × Nat × Nat × Nat) := (⟨"NeedMachine$Text", "isDigit", "(C)Z"⟩, prog_7_method_15_code, 1, (some .boolean), [])
def zm_m30 : MethodName × ByteArray × Nat × Option FieldType × List (Nat × Nat × Nat × Nat) := (⟨"NeedMachine$Text", "readLeaf", "(C)LNeedMachine$Expression;"⟩, prog_7_method_10_code, 3, (some (.object "NeedMachine$Expression")), [])
def zm_m31 : MethodName × ByteArray × Nat × Option FieldType × List (Nat × Nat × Nat × Nat) := (⟨"NeedMachine$Expression", "<init>", "(CILNeedMachine$Expression;LNeedMachine$Expression;LNeedMachine$Expression;)V"⟩, prog_5_method_1_code, 6, none, [])
def zm_m32 : MethodName × ByteArray × Nat × Option FieldType × List (Nat × Nat × Nat × Nat) := (⟨"NeedMachine$Definition", "<init>", "(IILNeedMachine$Expression;)V"⟩, prog_4_method_1_code, 4, none, [])
def zm_m33 : MethodName × ByteArray × Nat × Option FieldType × List (Nat × Nat × Nat × Nat) := (⟨"NeedMachineLaw", "ask", "(LNeedMachine;[J)I"⟩, method_5_code, 3, (some .int), [(0, 8, 11, 13), (0, 8, 14, 24), (0, 8, 17, 26), (0, 8, 20, 15), (0, 8, 23, 28)])
def zm_m34 : MethodName × ByteArray × Nat × Option FieldType × List (Nat × Nat × Nat × Nat) := (⟨"NeedMachine", "ask", "()I"⟩, prog_1_method_4_code, 2, (some .int), [])
def zm_m35 : MethodName × ByteArray × Nat × Option FieldType × List (Nat × Nat × Nat × Nat) := (⟨"NeedMachine$Text", "readAsked", "()LNeedMachine$Expression;"⟩, prog_7_method_5_code, 1, (some (.object "NeedMachine$Expression")), [])
def zm_m36 : MethodName × ByteArray × Nat × Option FieldType × List (Nat × Nat × Nat × Nat) := (⟨"NeedMachine$Store", "takeAllBack", "()V"⟩, prog_6_method_2_code, 1, none, [])
def zm_m37 : MethodName × ByteArray × Nat × Option FieldType × List (Nat × Nat × Nat × Nat) := (⟨"NeedMachine", "work", "(LNeedMachine$Expression;LNeedMachine$Arguments;I)LNeedMachine$Value;"⟩, prog_1_method_12_code, 4, (some (.object "NeedMachine$Value")), [])
def zm_m38 : MethodName × ByteArray × Nat × Option FieldType × List (Nat × Nat × Nat × Nat) := (⟨"NeedMachine$Store", "makeNumber", "(I)LNeedMachine$Value;"⟩, prog_6_method_3_code, 3, (some (.object "NeedMachine$Value")), [])
def zm_m39 : MethodName × ByteArray × Nat × Option FieldType × List (Nat × Nat × Nat × Nat) := (⟨"NeedMachine$Store", "nextValue", "(I)LNeedMachine$Value;"⟩, prog_6_method_8_code, 3, (some (.object "NeedMachine$Value")), [])
def zm_m40 : MethodName × ByteArray × Nat × Option FieldType × List (Nat × Nat × Nat × Nat) := (⟨"NeedMachine", "argumentAt", "(LNeedMachine$Arguments;I)LNeedMachine$Closure;"⟩, prog_1_method_22_code, 3, (some (.object "NeedMachine$Closure")), [])
def zm_m41 : MethodName × ByteArray × Nat × Option FieldType × List (Nat × Nat × Nat × Nat) := (⟨"NeedMachine", "force", "(LNeedMachine$Closure;I)LNeedMachine$Value;"⟩, prog_1_method_19_code, 4, (some (.object "NeedMachine$Value")), [])
def zm_m42 : MethodName × ByteArray × Nat × Option FieldType × List (Nat × Nat × Nat × Nat) := (⟨"NeedMachine", "mustBeWorkedOut", "(LNeedMachine$Closure;)LNeedMachine$Value;"⟩, prog_1_method_23_code, 1, (some (.object "NeedMachine$Value")), [])
def zm_m43 : MethodName × ByteArray × Nat × Option FieldType × List (Nat × Nat × Nat × Nat) := (⟨"NeedMachine", "workName", "(II)LNeedMachine$Value;"⟩, prog_1_method_13_code, 4, (some (.object "NeedMachine$Value")), [])
def zm_m44 : MethodName × ByteArray × Nat × Option FieldType × List (Nat × Nat × Nat × Nat) := (⟨"NeedMachine", "definitionOf", "(I)LNeedMachine$Definition;"⟩, prog_1_method_21_code, 3, (some (.object "NeedMachine$Definition")), [])
def zm_m45 : MethodName × ByteArray × Nat × Option FieldType × List (Nat × Nat × Nat × Nat) := (⟨"NeedMachine", "call", "(LNeedMachine$Definition;LNeedMachine$Arguments;I)LNeedMachine$Value;"⟩, prog_1_method_15_code, 4, (some (.object "NeedMachine$Value")), [])
def zm_m46 : MethodName × ByteArray × Nat × Option FieldType × List (Nat × Nat × Nat × Nat) := (⟨"NeedMachine$Store", "makeFunction", "(ILNeedMachine$Arguments;)LNeedMachine$Value;"⟩, prog_6_method_5_code, 4, (some (.object "NeedMachine$Value")), [])
def zm_m47 : MethodName × ByteArray × Nat × Option FieldType × List (Nat × Nat × Nat × Nat) := (⟨"NeedMachine", "closureOf", "(LNeedMachine$Expression;LNeedMachine$Arguments;)LNeedMachine$Closure;"⟩, prog_1_method_20_code, 3, (some (.object "NeedMachine$Closure")), [])
def zm_m48 : MethodName × ByteArray × Nat × Option FieldType × List (Nat × Nat × Nat × Nat) := (⟨"NeedMachine$Store", "makeClosure", "(LNeedMachine$Expression;LNeedMachine$Arguments;)LNeedMachine$Closure;"⟩, prog_6_method_6_code, 4, (some (.object "NeedMachine$Closure")), [])
def zm_m49 : MethodName × ByteArray × Nat × Option FieldType × List (Nat × Nat × Nat × Nat) := (⟨"NeedMachine$Closure", "<init>", "()V"⟩, prog_3_method_1_code, 1, none, [])
def zm_m50 : MethodName × ByteArray × Nat × Option FieldType × List (Nat × Nat × Nat × Nat) := (⟨"NeedMachine$Store", "makePair", "(LNeedMachine$Closure;LNeedMachine$Closure;)LNeedMachine$Value;"⟩, prog_6_method_4_code, 4, (some (.object "NeedMachine$Value")), [])
def zm_m51 : MethodName × ByteArray × Nat × Option FieldType × List (Nat × Nat × Nat × Nat) := (⟨"NeedMachine", "apply", "(LNeedMachine$Expression;LNeedMachine$Arguments;I)LNeedMachine$Value;"⟩, prog_1_method_14_code, 7, (some (.object "NeedMachine$Value")), [])
def zm_m52 : MethodName × ByteArray × Nat × Option FieldType × List (Nat × Nat × Nat × Nat) := (⟨"NeedMachine$Store", "makeArguments", "(LNeedMachine$Arguments;LNeedMachine$Closure;)LNeedMachine$Arguments;"⟩, prog_6_method_7_code, 4, (some (.object "NeedMachine$Arguments")), [])
def zm_m53 : MethodName × ByteArray × Nat × Option FieldType × List (Nat × Nat × Nat × Nat) := (⟨"NeedMachine$Arguments", "<init>", "()V"⟩, prog_2_method_1_code, 1, none, [])
def zm_m54 : MethodName × ByteArray × Nat × Option FieldType × List (Nat × Nat × Nat × Nat) := (⟨"NeedMachine", "mustBePair", "(LNeedMachine$Value;)LNeedMachine$Value;"⟩, prog_1_method_25_code, 1, (some (.object "NeedMachine$Value")), [])
def zm_m55 : MethodName × ByteArray × Nat × Option FieldType × List (Nat × Nat × Nat × Nat) := (⟨"NeedMachine", "isNil", "(LNeedMachine$Value;)I"⟩, prog_1_method_26_code, 1, (some .int), [])
def zm_m56 : MethodName × ByteArray × Nat × Option FieldType × List (Nat × Nat × Nat × Nat) := (⟨"NeedMachine", "choose", "(LNeedMachine$Expression;LNeedMachine$Arguments;I)LNeedMachine$Value;"⟩, prog_1_method_16_code, 5, (some (.object "NeedMachine$Value")), [])
def zm_m57 : MethodName × ByteArray × Nat × Option FieldType × List (Nat × Nat × Nat × Nat) := (⟨"NeedMachine", "mustBeNumber", "(LNeedMachine$Value;)I"⟩, prog_1_method_24_code, 1, (some .int), [])
def zm_m58 : MethodName × ByteArray × Nat × Option FieldType × List (Nat × Nat × Nat × Nat) := (⟨"NeedMachine", "reckon", "(LNeedMachine$Expression;LNeedMachine$Arguments;I)LNeedMachine$Value;"⟩, prog_1_method_17_code, 6, (some (.object "NeedMachine$Value")), [])
def zm_m59 : MethodName × ByteArray × Nat × Option FieldType × List (Nat × Nat × Nat × Nat) := (⟨"NeedMachine", "reckonNumbers", "(CII)I"⟩, prog_1_method_18_code, 3, (some .int), [])
def zm_m60 : MethodName × ByteArray × Nat × Option FieldType × List (Nat × Nat × Nat × Nat) := (⟨"NeedMachine", "mustNotBeZero", "(I)I"⟩, prog_1_method_27_code, 1, (some .int), [])
def zm_m61 : MethodName × ByteArray × Nat × Option FieldType × List (Nat × Nat × Nat × Nat) := (⟨"NeedMachineLaw", "number", "(LNeedMachine;[J)I"⟩, method_6_code, 3, (some .int), [(0, 8, 11, 24), (0, 8, 14, 28)])
def zm_m62 : MethodName × ByteArray × Nat × Option FieldType × List (Nat × Nat × Nat × Nat) := (⟨"NeedMachine", "number", "()I"⟩, prog_1_method_5_code, 1, (some .int), [])
def zm_m63 : MethodName × ByteArray × Nat × Option FieldType × List (Nat × Nat × Nat × Nat) := (⟨"NeedMachineLaw", "head", "(LNeedMachine;[J)I"⟩, method_7_code, 3, (some .int), [(0, 8, 11, 24), (0, 8, 14, 26), (0, 8, 17, 15), (0, 8, 20, 28)])
def zm_m64 : MethodName × ByteArray × Nat × Option FieldType × List (Nat × Nat × Nat × Nat) := (⟨"NeedMachine", "head", "()I"⟩, prog_1_method_6_code, 3, (some .int), [])
def zm_m65 : MethodName × ByteArray × Nat × Option FieldType × List (Nat × Nat × Nat × Nat) := (⟨"NeedMachine", "takeResultPair", "()LNeedMachine$Value;"⟩, prog_1_method_11_code, 2, (some (.object "NeedMachine$Value")), [])
def zm_m66 : MethodName × ByteArray × Nat × Option FieldType × List (Nat × Nat × Nat × Nat) := (⟨"NeedMachineLaw", "tail", "(LNeedMachine;[J)I"⟩, method_8_code, 3, (some .int), [(0, 8, 11, 24), (0, 8, 14, 26), (0, 8, 17, 15), (0, 8, 20, 28)])
def zm_m67 : MethodName × ByteArray × Nat × Option FieldType × List (Nat × Nat × Nat × Nat) := (⟨"NeedMachine", "tail", "()I"⟩, prog_1_method_7_code, 2, (some .int), [])
def zm_m68 : MethodName × ByteArray × Nat × Option FieldType × List (Nat × Nat × Nat × Nat) := (⟨"NeedMachineLaw", "remove", "(LNeedMachine;I)I"⟩, method_9_code, 3, (some .int), [(0, 5, 8, 13), (0, 5, 11, 24)])
def zm_m69 : MethodName × ByteArray × Nat × Option FieldType × List (Nat × Nat × Nat × Nat) := (⟨"NeedMachine", "remove", "(I)V"⟩, prog_1_method_8_code, 2, none, [])
def zm_m70 : MethodName × ByteArray × Nat × Option FieldType × List (Nat × Nat × Nat × Nat) := (⟨"NeedMachineModel", "<init>", "()V"⟩, prog_10_method_1_code, 1, none, [])
def zm_m71 : MethodName × ByteArray × Nat × Option FieldType × List (Nat × Nat × Nat × Nat) := (⟨"NeedMachineModel", "thrown", "()I"⟩, prog_10_method_2_code, 1, (some .int), [])
def zm_m72 : MethodName × ByteArray × Nat × Option FieldType × List (Nat × Nat × Nat × Nat) := (⟨"NeedMachineModel", "type", "(J)I"⟩, prog_10_method_6_code, 7, (some .int), [])
def zm_m73 : MethodName × ByteArray × Nat × Option FieldType × List (Nat × Nat × Nat × Nat) := (⟨"NeedMachineModel", "between", "(III)Z"⟩, prog_10_method_3_code, 3, (some .boolean), [])
def zm_m74 : MethodName × ByteArray × Nat × Option FieldType × List (Nat × Nat × Nat × Nat) := (⟨"NeedMachineModel", "bad", "(Z)Z"⟩, prog_10_method_4_code, 2, (some .boolean), [])
def zm_m75 : MethodName × ByteArray × Nat × Option FieldType × List (Nat × Nat × Nat × Nat) := (⟨"NeedMachineModel", "fail", "(I)I"⟩, prog_10_method_5_code, 2, (some .int), [])
def zm_m76 : MethodName × ByteArray × Nat × Option FieldType × List (Nat × Nat × Nat × Nat) := (⟨"NeedMachineModel", "define", "()I"⟩, prog_10_method_12_code, 8, (some .int), [])
def zm_m77 : MethodName × ByteArray × Nat × Option FieldType × List (Nat × Nat × Nat × Nat) := (⟨"NeedMachineModel", "heading", "([I)I"⟩, prog_10_method_10_code, 4, (some .int), [])
def zm_m78 : MethodName × ByteArray × Nat × Option FieldType × List (Nat × Nat × Nat × Nat) := (⟨"NeedMachineModel", "look", "()I"⟩, prog_10_method_7_code, 1, (some .int), [])
def zm_m79 : MethodName × ByteArray × Nat × Option FieldType × List (Nat × Nat × Nat × Nat) := (⟨"NeedMachineModel", "read", "(I)Z"⟩, prog_10_method_9_code, 5, (some .boolean), [])
def zm_m80 : MethodName × ByteArray × Nat × Option FieldType × List (Nat × Nat × Nat × Nat) := (⟨"NeedMachineModel", "parts", "(I)I"⟩, prog_10_method_8_code, 1, (some .int), [])
def zm_m81 : MethodName × ByteArray × Nat × Option FieldType × List (Nat × Nat × Nat × Nat) := (⟨"NeedMachineModel", "store", "(I)I"⟩, prog_10_method_11_code, 4, (some .int), [])
def zm_m82 : MethodName × ByteArray × Nat × Option FieldType × List (Nat × Nat × Nat × Nat) := (⟨"NeedMachineModel", "ask", "()I"⟩, prog_10_method_32_code, 3, (some .int), [])
def zm_m83 : MethodName × ByteArray × Nat × Option FieldType × List (Nat × Nat × Nat × Nat) := (⟨"NeedMachineModel", "sweep", "()V"⟩, prog_10_method_13_code, 6, none, [])
def zm_m84 : MethodName × ByteArray × Nat × Option FieldType × List (Nat × Nat × Nat × Nat) := (⟨"NeedMachineModel", "skip", "(I)I"⟩, prog_10_method_14_code, 4, (some .int), [])
def zm_m85 : MethodName × ByteArray × Nat × Option FieldType × List (Nat × Nat × Nat × Nat) := (⟨"NeedMachineModel", "workOut", "(II)V"⟩, prog_10_method_30_code, 3, none, [])
def zm_m86 : MethodName × ByteArray × Nat × Option FieldType × List (Nat × Nat × Nat × Nat) := (⟨"NeedMachineModel", "push", "(II)V"⟩, prog_10_method_15_code, 3, none, [])
def zm_m87 : MethodName × ByteArray × Nat × Option FieldType × List (Nat × Nat × Nat × Nat) := (⟨"NeedMachineModel", "step", "()V"⟩, prog_10_method_29_code, 5, none, [])
def zm_m88 : MethodName × ByteArray × Nat × Option FieldType × List (Nat × Nat × Nat × Nat) := (⟨"NeedMachineModel", "keepValue", "()V"⟩, prog_10_method_21_code, 2, none, [])
def zm_m89 : MethodName × ByteArray × Nat × Option FieldType × List (Nat × Nat × Nat × Nat) := (⟨"NeedMachineModel", "giveClosure", "(I)V"⟩, prog_10_method_19_code, 2, none, [])
def zm_m90 : MethodName × ByteArray × Nat × Option FieldType × List (Nat × Nat × Nat × Nat) := (⟨"NeedMachineModel", "give", "(III)V"⟩, prog_10_method_16_code, 4, none, [])
def zm_m91 : MethodName × ByteArray × Nat × Option FieldType × List (Nat × Nat × Nat × Nat) := (⟨"NeedMachineModel", "goOn", "(II)V"⟩, prog_10_method_28_code, 5, none, [])
def zm_m92 : MethodName × ByteArray × Nat × Option FieldType × List (Nat × Nat × Nat × Nat) := (⟨"NeedMachineModel", "apply", "(I)V"⟩, prog_10_method_24_code, 6, none, [])
def zm_m93 : MethodName × ByteArray × Nat × Option FieldType × List (Nat × Nat × Nat × Nat) := (⟨"NeedMachineModel", "closureOf", "(II)I"⟩, prog_10_method_18_code, 3, (some .int), [])
def zm_m94 : MethodName × ByteArray × Nat × Option FieldType × List (Nat × Nat × Nat × Nat) := (⟨"NeedMachineModel", "parameterOf", "(II)I"⟩, prog_10_method_17_code, 4, (some .int), [])
def zm_m95 : MethodName × ByteArray × Nat × Option FieldType × List (Nat × Nat × Nat × Nat) := (⟨"NeedMachineModel", "countOf", "(I)I"⟩, prog_10_method_23_code, 4, (some .int), [])
def zm_m96 : MethodName × ByteArray × Nat × Option FieldType × List (Nat × Nat × Nat × Nat) := (⟨"NeedMachineModel", "call", "(III)V"⟩, prog_10_method_22_code, 7, none, [])
def zm_m97 : MethodName × ByteArray × Nat × Option FieldType × List (Nat × Nat × Nat × Nat) := (⟨"NeedMachineModel", "force", "(I)V"⟩, prog_10_method_20_code, 2, none, [])
def zm_m98 : MethodName × ByteArray × Nat × Option FieldType × List (Nat × Nat × Nat × Nat) := (⟨"NeedMachineModel", "isNumber", "()Z"⟩, prog_10_method_27_code, 1, (some .boolean), [])
def zm_m99 : MethodName × ByteArray × Nat × Option FieldType × List (Nat × Nat × Nat × Nat) := (⟨"NeedMachineModel", "binary", "(III)I"⟩, prog_10_method_26_code, 4, (some .int), [])
def zm_m100 : MethodName × ByteArray × Nat × Option FieldType × List (Nat × Nat × Nat × Nat) := (⟨"NeedMachineModel", "nameAt", "(I)V"⟩, prog_10_method_25_code, 2, none, [])
def zm_m101 : MethodName × ByteArray × Nat × Option FieldType × List (Nat × Nat × Nat × Nat) := (⟨"NeedMachineModel", "answer", "()I"⟩, prog_10_method_31_code, 1, (some .int), [])
def zm_m102 : MethodName × ByteArray × Nat × Option FieldType × List (Nat × Nat × Nat × Nat) := (⟨"NeedMachineModel", "number", "()I"⟩, prog_10_method_33_code, 1, (some .int), [])
def zm_m103 : MethodName × ByteArray × Nat × Option FieldType × List (Nat × Nat × Nat × Nat) := (⟨"NeedMachineModel", "head", "()I"⟩, prog_10_method_35_code, 1, (some .int), [])
def zm_m104 : MethodName × ByteArray × Nat × Option FieldType × List (Nat × Nat × Nat × Nat) := (⟨"NeedMachineModel", "side", "(Z)Z"⟩, prog_10_method_34_code, 3, (some .boolean), [])
def zm_m105 : MethodName × ByteArray × Nat × Option FieldType × List (Nat × Nat × Nat × Nat) := (⟨"NeedMachineModel", "tail", "()I"⟩, prog_10_method_36_code, 1, (some .int), [])
def zm_m106 : MethodName × ByteArray × Nat × Option FieldType × List (Nat × Nat × Nat × Nat) := (⟨"NeedMachineModel", "remove", "(I)V"⟩, prog_10_method_37_code, 2, none, [])
def zm_m107 : MethodName × ByteArray × Nat × Option FieldType × List (Nat × Nat × Nat × Nat) := (⟨"NeedMachineModel", "count", "(I)I"⟩, prog_10_method_38_code, 4, (some .int), [])
def zm_mt : List (MethodName × ByteArray × Nat × Option FieldType × List (Nat × Nat × Nat × Nat)) := [zm_m0, zm_m1, zm_m2, zm_m3, zm_m4, zm_m5, zm_m6, zm_m7, zm_m8, zm_m9, zm_m10, zm_m11, zm_m12, zm_m13, zm_m14, zm_m15, zm_m16, zm_m17, zm_m18, zm_m19, zm_m20, zm_m21, zm_m22, zm_m23, zm_m24, zm_m25, zm_m26, zm_m27, zm_m28, zm_m29, zm_m30, zm_m31, zm_m32, zm_m33, zm_m34, zm_m35, zm_m36, zm_m37, zm_m38, zm_m39, zm_m40, zm_m41, zm_m42, zm_m43, zm_m44, zm_m45, zm_m46, zm_m47, zm_m48, zm_m49, zm_m50, zm_m51, zm_m52, zm_m53, zm_m54, zm_m55, zm_m56, zm_m57, zm_m58, zm_m59, zm_m60, zm_m61, zm_m62, zm_m63, zm_m64, zm_m65, zm_m66, zm_m67, zm_m68, zm_m69, zm_m70, zm_m71, zm_m72, zm_m73, zm_m74, zm_m75, zm_m76, zm_m77, zm_m78, zm_m79, zm_m80, zm_m81, zm_m82, zm_m83, zm_m84, zm_m85, zm_m86, zm_m87, zm_m88, zm_m89, zm_m90, zm_m91, zm_m92, zm_m93, zm_m94, zm_m95, zm_m96, zm_m97, zm_m98, zm_m99, zm_m100, zm_m101, zm_m102, zm_m103, zm_m104, zm_m105, zm_m106, zm_m107]
def zm_md (mi : Nat) : MethodName × ByteArray × Nat × Option FieldType × List (Nat × Nat × Nat × Nat) := zm_mt.getD mi (⟨"", "", ""⟩, ⟨#[]⟩, 0, none, [])
def zm_mn (mi : Nat) : MethodName := (zm_md mi).1
def zm_by (mi : Nat) : ByteArray := (zm_md mi).2.1
def zm_nl (mi : Nat) : Nat := (zm_md mi).2.2.1
def zm_rt (mi : Nat) : Option FieldType := (zm_md mi).2.2.2.1
def zm_hd (mi : Nat) : List (Nat × Nat × Nat × Nat) := (zm_md mi).2.2.2.2
abbrev zm_I : Type := Instr × Nat × Nat × Int
/-- NeedMachineLaw.law([I)Z -/
def zm_c0 : List (Nat × zm_I) := [(0, .new 8, 0, 0, 0), (3, .dup, 0, 0, 0), (4, .invokespecial 43, 0, 0, 0), (7, .astore_n 1, 0, 0, 0), (8, .new 44, 5, 0, 0), (11, .dup, 0, 0, 0), (12, .invokespecial 46, 0, 0, 0), (15, .astore_n 2, 0, 0, 0), (16, .iconst 1, 0, 0, 0), (17, .newarray .long, 2, 0, 0), (19, .astore_n 3, 0, 0, 0), (20, .iconst 0, 0, 0, 0), (21, .istore 4, 0, 0, 0), (23, .iload 4, 0, 0, 0), (25, .aload_n 0, 0, 0, 0), (26, .arraylength, 0, 0, 0), (27, .iconst 3, 0, 0, 0), (28, .isub, 0, 0, 0), (29, .if_icmp .gt 430, 0, 0, 0), (32, .aload_n 0, 0, 0, 0), (33, .iload 4, 0, 0, 0), (35, .iaload, 0, 0, 0), (36, .bipush 7, 0, 0, 0), (38, .iand, 0, 0, 0), (39, .tableswitch 414 0 7 #[45, 133, 177, 221, 265, 309, 353, 389], 45, 0, 0), (84, .aload_n 1, 0, 0, 0), (85, .aload_n 0, 0, 0, 0), (86, .iload 4, 0, 0, 0), (88, .iconst 1, 0, 0, 0), (89, .iadd, 0, 0, 0), (90, .iaload, 0, 0, 0), (91, .i2l, 0, 0, 0), (92, .bipush 32, 0, 0, 0), (94, .lshl, 0, 0, 0), (95, .aload_n 0, 0, 0, 0), (96, .iload 4, 0, 0, 0), (98, .iconst 2, 0, 0, 0), (99, .iadd, 0, 0, 0), (100, .iaload, 0, 0, 0), (101, .i2l, 0, 0, 0), (102, .ldc2_w 47, 0, 0, 4294967295), (105, .land, 0, 0, 0), (106, .lor, 0, 0, 0), (107, .aload_n 3, 0, 0, 0), (108, .invokestatic 49, 0, 0, 0), (111, .istore 5, 0, 0, 0), (113, .aload_n 2, 0, 0, 0), (114, .aload_n 0, 0, 0, 0), (115, .iload 4, 0, 0, 0), (117, .iconst 1, 0, 0, 0), (118, .iadd, 0, 0, 0), (119, .iaload, 0, 0, 0), (120, .i2l, 0, 0, 0), (121, .bipush 32, 0, 0, 0), (123, .lshl, 0, 0, 0), (124, .aload_n 0, 0, 0, 0), (125, .iload 4, 0, 0, 0), (127, .iconst 2, 0, 0, 0), (128, .iadd, 0, 0, 0), (129, .iaload, 0, 0, 0), (130, .i2l, 0, 0, 0), (131, .ldc2_w 47, 0, 0, 4294967295), (134, .land, 0, 0, 0), (135, .lor, 0, 0, 0), (136, .invokevirtual 54, 0, 0, 0), (139, .istore 6, 0, 0, 0), (141, .aload_n 2, 0, 0, 0), (142, .invokevirtual 55, 0, 0, 0), (145, .iload 5, 0, 0, 0), (147, .if_icmp .eq 5, 0, 0, 0), (150, .iconst 0, 0, 0, 0), (151, .ireturn, 0, 0, 0), (152, .iload 5, 0, 0, 0), (154, .ifCond .ne 15, 0, 0, 0), (157, .aload_n 3, 0, 0, 0), (158, .iconst 0, 0, 0, 0), (159, .laload, 0, 0, 0), (160, .iload 6, 0, 0, 0), (162, .i2l, 0, 0, 0), (163, .lcmp, 0, 0, 0), (164, .ifCond .eq 5, 0, 0, 0), (167, .iconst 0, 0, 0, 0), (168, .ireturn, 0, 0, 0), (169, .goto 284, 0, 0, 0), (172, .aload_n 1, 0, 0, 0), (173, .aload_n 3, 0, 0, 0), (174, .invokestatic 58, 0, 0, 0), (177, .istore 5, 0, 0, 0), (179, .aload_n 2, 0, 0, 0), (180, .invokevirtual 61, 0, 0, 0), (183, .istore 6, 0, 0, 0), (185, .aload_n 2, 0, 0, 0), (186, .invokevirtual 55, 0, 0, 0), (189, .iload 5, 0, 0, 0), (191, .if_icmp .eq 5, 0, 0, 0), (194, .iconst 0, 0, 0, 0), (195, .ireturn, 0, 0, 0), (196, .iload 5, 0, 0, 0), (198, .ifCond .ne 15, 0, 0, 0), (201, .aload_n 3, 0, 0, 0), (202, .iconst 0, 0, 0, 0), (203, .laload, 0, 0, 0), (204, .iload 6, 0, 0, 0), (206, .i2l, 0, 0, 0), (207, .lcmp, 0, 0, 0), (208, .ifCond .eq 5, 0, 0, 0), (211, .iconst 0, 0, 0, 0), (212, .ireturn, 0, 0, 0), (213, .goto 240, 0, 0, 0), (216, .aload_n 1, 0, 0, 0), (217, .aload_n 3, 0, 0, 0), (218, .invokestatic 62, 0, 0, 0), (221, .istore 5, 0, 0, 0), (223, .aload_n 2, 0, 0, 0), (224, .invokevirtual 64, 0, 0, 0), (227, .istore 6, 0, 0, 0), (229, .aload_n 2, 0, 0, 0), (230, .invokevirtual 55, 0, 0, 0), (233, .iload 5, 0, 0, 0), (235, .if_icmp .eq 5, 0, 0, 0), (238, .iconst 0, 0, 0, 0), (239, .ireturn, 0, 0, 0), (240, .iload 5, 0, 0, 0), (242, .ifCond .ne 15, 0, 0, 0), (245, .aload_n 3, 0, 0, 0), (246, .iconst 0, 0, 0, 0), (247, .laload, 0, 0, 0), (248, .iload 6, 0, 0, 0), (250, .i2l, 0, 0, 0), (251, .lcmp, 0, 0, 0), (252, .ifCond .eq 5, 0, 0, 0), (255, .iconst 0, 0, 0, 0), (256, .ireturn, 0, 0, 0), (257, .goto 196, 0, 0, 0), (260, .aload_n 1, 0, 0, 0), (261, .aload_n 3, 0, 0, 0), (262, .invokestatic 65, 0, 0, 0), (265, .istore 5, 0, 0, 0), (267, .aload_n 2, 0, 0, 0), (268, .invokevirtual 67, 0, 0, 0), (271, .istore 6, 0, 0, 0), (273, .aload_n 2, 0, 0, 0), (274, .invokevirtual 55, 0, 0, 0), (277, .iload 5, 0, 0, 0), (279, .if_icmp .eq 5, 0, 0, 0), (282, .iconst 0, 0, 0, 0), (283, .ireturn, 0, 0, 0), (284, .iload 5, 0, 0, 0), (286, .ifCond .ne 15, 0, 0, 0), (289, .aload_n 3, 0, 0, 0), (290, .iconst 0, 0, 0, 0), (291, .laload, 0, 0, 0), (292, .iload 6, 0, 0, 0), (294, .i2l, 0, 0, 0), (295, .lcmp, 0, 0, 0), (296, .ifCond .eq 5, 0, 0, 0), (299, .iconst 0, 0, 0, 0), (300, .ireturn, 0, 0, 0), (301, .goto 152, 0, 0, 0), (304, .aload_n 1, 0, 0, 0), (305, .aload_n 3, 0, 0, 0), (306, .invokestatic 68, 0, 0, 0), (309, .istore 5, 0, 0, 0), (311, .aload_n 2, 0, 0, 0), (312, .invokevirtual 70, 0, 0, 0), (315, .istore 6, 0, 0, 0), (317, .aload_n 2, 0, 0, 0), (318, .invokevirtual 55, 0, 0, 0), (321, .iload 5, 0, 0, 0), (323, .if_icmp .eq 5, 0, 0, 0), (326, .iconst 0, 0, 0, 0), (327, .ireturn, 0, 0, 0), (328, .iload 5, 0, 0, 0), (330, .ifCond .ne 15, 0, 0, 0), (333, .aload_n 3, 0, 0, 0), (334, .iconst 0, 0, 0, 0), (335, .laload, 0, 0, 0), (336, .iload 6, 0, 0, 0), (338, .i2l, 0, 0, 0), (339, .lcmp, 0, 0, 0), (340, .ifCond .eq 5, 0, 0, 0), (343, .iconst 0, 0, 0, 0), (344, .ireturn, 0, 0, 0), (345, .goto 108, 0, 0, 0), (348, .aload_n 1, 0, 0, 0), (349, .aload_n 3, 0, 0, 0), (350, .invokestatic 71, 0, 0, 0), (353, .istore 5, 0, 0, 0), (355, .aload_n 2, 0, 0, 0), (356, .invokevirtual 73, 0, 0, 0), (359, .istore 6, 0, 0, 0), (361, .aload_n 2, 0, 0, 0), (362, .invokevirtual 55, 0, 0, 0), (365, .iload 5, 0, 0, 0), (367, .if_icmp .eq 5, 0, 0, 0), (370, .iconst 0, 0, 0, 0), (371, .ireturn, 0, 0, 0), (372, .iload 5, 0, 0, 0), (374, .ifCond .ne 15, 0, 0, 0), (377, .aload_n 3, 0, 0, 0), (378, .iconst 0, 0, 0, 0), (379, .laload, 0, 0, 0), (380, .iload 6, 0, 0, 0), (382, .i2l, 0, 0, 0), (383, .lcmp, 0, 0, 0), (384, .ifCond .eq 5, 0, 0, 0), (387, .iconst 0, 0, 0, 0), (388, .ireturn, 0, 0, 0), (389, .goto 64, 0, 0, 0), (392, .aload_n 1, 0, 0, 0), (393, .aload_n 0, 0, 0, 0), (394, .iload 4, 0, 0, 0), (396, .iconst 1, 0, 0, 0), (397, .iadd, 0, 0, 0), (398, .iaload, 0, 0, 0), (399, .invokestatic 74, 0, 0, 0), (402, .istore 5, 0, 0, 0), (404, .aload_n 2, 0, 0, 0), (405, .aload_n 0, 0, 0, 0), (406, .iload 4, 0, 0, 0), (408, .iconst 1, 0, 0, 0), (409, .iadd, 0, 0, 0), (410, .iaload, 0, 0, 0), (411, .invokevirtual 77, 0, 0, 0), (414, .aload_n 2, 0, 0, 0), (415, .invokevirtual 55, 0, 0, 0), (418, .iload 5, 0, 0, 0), (420, .if_icmp .eq 5, 0, 0, 0), (423, .iconst 0, 0, 0, 0), (424, .ireturn, 0, 0, 0), (425, .goto 28, 0, 0, 0), (428, .aload_n 1, 0, 0, 0), (429, .aload_n 0, 0, 0, 0), (430, .iload 4, 0, 0, 0), (432, .iconst 1, 0, 0, 0), (433, .iadd, 0, 0, 0), (434, .iaload, 0, 0, 0), (435, .invokevirtual 78, 0, 0, 0), (438, .aload_n 2, 0, 0, 0), (439, .aload_n 0, 0, 0, 0), (440, .iload 4, 0, 0, 0), (442, .iconst 1, 0, 0, 0), (443, .iadd, 0, 0, 0), (444, .iaload, 0, 0, 0), (445, .invokevirtual 82, 0, 0, 0), (448, .if_icmp .eq 5, 0, 0, 0), (451, .iconst 0, 0, 0, 0), (452, .ireturn, 0, 0, 0), (453, .iinc 4 3, 0, 0, 0), (456, .goto (-433), 0, 0, 0), (459, .iconst 1, 0, 0, 0), (460, .ireturn, 0, 0, 0)]
/-- NeedMachine.<init>()V -/
def zm_c1 : List (Nat × zm_I) := [(0, .aload_n 0, 0, 0, 0), (1, .invokespecial 1, 0, 0, 0), (4, .aload_n 0, 0, 0, 0), (5, .new 7, 1, 0, 0), (8, .dup, 0, 0, 0), (9, .invokespecial 9, 0, 0, 0), (12, .putfield 10, 0, 0, 0), (15, .aload_n 0, 0, 0, 0), (16, .new 16, 2, 0, 0), (19, .dup, 0, 0, 0), (20, .invokespecial 18, 0, 0, 0), (23, .putfield 19, 0, 1, 0), (26, .aload_n 0, 0, 0, 0), (27, .bipush 6, 0, 0, 0), (29, .anewarray 23, 4, 0, 0), (32, .putfield 25, 0, 2, 0), (35, .return_, 0, 0, 0)]
/-- java/lang/Object.<init>()V -/
def zm_c2 : List (Nat × zm_I) := [(0, .return_, 0, 0, 0)]
/-- NeedMachine$Text.<init>()V -/
def zm_c3 : List (Nat × zm_I) := [(0, .aload_n 0, 0, 0, 0), (1, .invokespecial 3, 0, 0, 0), (4, .aload_n 0, 0, 0, 0), (5, .iconst (-1), 0, 0, 0), (6, .putfield 9, 1, 1, 0), (9, .aload_n 0, 0, 0, 0), (10, .bipush 40, 0, 0, 0), (12, .newarray .char, 1, 0, 0), (14, .putfield 15, 1, 2, 0), (17, .aload_n 0, 0, 0, 0), (18, .iconst 4, 0, 0, 0), (19, .newarray .char, 1, 0, 0), (21, .putfield 19, 1, 3, 0), (24, .return_, 0, 0, 0)]
/-- NeedMachine$Store.<init>()V -/
def zm_c4 : List (Nat × zm_I) := [(0, .aload_n 0, 0, 0, 0), (1, .invokespecial 3, 0, 0, 0), (4, .aload_n 0, 0, 0, 0), (5, .new 9, 3, 0, 0), (8, .dup, 0, 0, 0), (9, .invokespecial 11, 0, 0, 0), (12, .putfield 12, 2, 0, 0), (15, .aload_n 0, 0, 0, 0), (16, .getfield 12, 2, 0, 0), (19, .iconst 1, 0, 0, 0), (20, .putfield 18, 3, 0, 0), (23, .aload_n 0, 0, 0, 0), (24, .new 22, 4, 0, 0), (27, .dup, 0, 0, 0), (28, .invokespecial 24, 0, 0, 0), (31, .putfield 25, 2, 1, 0), (34, .aload_n 0, 0, 0, 0), (35, .new 22, 4, 0, 0), (38, .dup, 0, 0, 0), (39, .invokespecial 24, 0, 0, 0), (42, .putfield 29, 2, 2, 0), (45, .aload_n 0, 0, 0, 0), (46, .new 22, 4, 0, 0), (49, .dup, 0, 0, 0), (50, .invokespecial 24, 0, 0, 0), (53, .putfield 32, 2, 3, 0), (56, .return_, 0, 0, 0)]
/-- NeedMachine$Value.<init>()V -/
def zm_c5 : List (Nat × zm_I) := [(0, .aload_n 0, 0, 0, 0), (1, .invokespecial 1, 0, 0, 0), (4, .return_, 0, 0, 0)]
/-- java/util/ArrayList.<init>()V -/
def zm_c6 : List (Nat × zm_I) := [(0, .aload_n 0, 0, 0, 0), (1, .invokespecial 1, 0, 0, 0), (4, .aload_n 0, 0, 0, 0), (5, .getstatic 39, 1, 0, 0), (8, .putfield 9, 4, 0, 0), (11, .return_, 0, 0, 0)]
/-- java/util/AbstractList.<init>()V -/
def zm_c7 : List (Nat × zm_I) := [(0, .aload_n 0, 0, 0, 0), (1, .invokespecial 1, 0, 0, 0), (4, .aload_n 0, 0, 0, 0), (5, .iconst 0, 0, 0, 0), (6, .putfield 7, 4, 2, 0), (9, .return_, 0, 0, 0)]
/-- java/util/AbstractCollection.<init>()V -/
def zm_c8 : List (Nat × zm_I) := [(0, .aload_n 0, 0, 0, 0), (1, .invokespecial 1, 0, 0, 0), (4, .return_, 0, 0, 0)]
/-- NeedMachine.count(I)I -/
def zm_c9 : List (Nat × zm_I) := [(0, .iload_n 1, 0, 0, 0), (1, .tableswitch 93 0 7 #[47, 55, 63, 68, 73, 78, 83, 88], 47, 0, 0), (48, .aload_n 0, 0, 0, 0), (49, .getfield 10, 0, 0, 0), (52, .getfield 105, 1, 1, 0), (55, .ireturn, 0, 0, 0), (56, .aload_n 0, 0, 0, 0), (57, .getfield 10, 0, 0, 0), (60, .getfield 108, 1, 0, 0), (63, .ireturn, 0, 0, 0), (64, .aload_n 0, 0, 0, 0), (65, .invokevirtual 111, 0, 0, 0), (68, .ireturn, 0, 0, 0), (69, .aload_n 0, 0, 0, 0), (70, .getfield 55, 0, 4, 0), (73, .ireturn, 0, 0, 0), (74, .aload_n 0, 0, 0, 0), (75, .getfield 115, 0, 5, 0), (78, .ireturn, 0, 0, 0), (79, .aload_n 0, 0, 0, 0), (80, .getfield 118, 0, 6, 0), (83, .ireturn, 0, 0, 0), (84, .aload_n 0, 0, 0, 0), (85, .getfield 121, 0, 7, 0), (88, .ireturn, 0, 0, 0), (89, .aload_n 0, 0, 0, 0), (90, .getfield 58, 0, 8, 0), (93, .ireturn, 0, 0, 0), (94, .iconst (-1), 0, 0, 0), (95, .ireturn, 0, 0, 0)]
/-- NeedMachine.countDefinitions()I -/
def zm_c10 : List (Nat × zm_I) := [(0, .iconst 0, 0, 0, 0), (1, .istore_n 1, 0, 0, 0), (2, .aload_n 0, 0, 0, 0), (3, .getfield 25, 0, 2, 0), (6, .astore_n 2, 0, 0, 0), (7, .aload_n 2, 0, 0, 0), (8, .arraylength, 0, 0, 0), (9, .istore_n 3, 0, 0, 0), (10, .iconst 0, 0, 0, 0), (11, .istore 4, 0, 0, 0), (13, .iload 4, 0, 0, 0), (15, .iload_n 3, 0, 0, 0), (16, .if_icmp .ge 23, 0, 0, 0), (19, .aload_n 2, 0, 0, 0), (20, .iload 4, 0, 0, 0), (22, .aaload, 0, 0, 0), (23, .astore 5, 0, 0, 0), (25, .aload 5, 0, 0, 0), (27, .ifnull 6, 0, 0, 0), (30, .iinc 1 1, 0, 0, 0), (33, .iinc 4 1, 0, 0, 0), (36, .goto (-23), 0, 0, 0), (39, .iload_n 1, 0, 0, 0), (40, .ireturn, 0, 0, 0)]
/-- NeedMachineLaw.type(LNeedMachine;J[J)I -/
def zm_c11 : List (Nat × zm_I) := [(0, .aload_n 3, 0, 0, 0), (1, .iconst 0, 0, 0, 0), (2, .aload_n 0, 0, 0, 0), (3, .lload_n 1, 0, 0, 0), (4, .invokevirtual 7, 0, 0, 0), (7, .i2l, 0, 0, 0), (8, .lastore, 0, 0, 0), (9, .goto 11, 0, 0, 0), (12, .astore 4, 0, 0, 0), (14, .iconst 1, 0, 0, 0), (15, .ireturn, 0, 0, 0), (16, .astore 4, 0, 0, 0), (18, .iconst 2, 0, 0, 0), (19, .ireturn, 0, 0, 0), (20, .iconst 0, 0, 0, 0), (21, .ireturn, 0, 0, 0)]
/-- NeedMachine.type(J)I -/
def zm_c12 : List (Nat × zm_I) := [(0, .aload_n 0, 0, 0, 0), (1, .getfield 10, 0, 0, 0), (4, .lload_n 1, 0, 0, 0), (5, .invokevirtual 29, 0, 0, 0), (8, .ireturn, 0, 0, 0)]
/-- NeedMachine$Text.add(J)I -/
def zm_c13 : List (Nat × zm_I) := [(0, .iconst 0, 0, 0, 0), (1, .istore_n 3, 0, 0, 0), (2, .bipush 56, 0, 0, 0), (4, .istore 4, 0, 0, 0), (6, .iload 4, 0, 0, 0), (8, .ifCond .lt 59, 0, 0, 0), (11, .lload_n 1, 0, 0, 0), (12, .iload 4, 0, 0, 0), (14, .invokestatic 22, 0, 0, 0), (17, .istore 5, 0, 0, 0), (19, .iload 5, 0, 0, 0), (21, .ifCond .eq 27, 0, 0, 0), (24, .iload 5, 0, 0, 0), (26, .bipush 33, 0, 0, 0), (28, .if_icmp .lt 10, 0, 0, 0), (31, .iload 5, 0, 0, 0), (33, .bipush 126, 0, 0, 0), (35, .if_icmp .le 13, 0, 0, 0), (38, .new 26, 99, 0, 0), (41, .dup, 0, 0, 0), (42, .ldc 28, 0, 0, 0), (44, .invokespecial 30, 0, 0, 0), (47, .athrow, 0, 0, 0), (48, .iload_n 3, 0, 0, 0), (49, .iload 5, 0, 0, 0), (51, .ifCond .eq 7, 0, 0, 0), (54, .iconst 1, 0, 0, 0), (55, .goto 4, 0, 0, 0), (58, .iconst 0, 0, 0, 0), (59, .iadd, 0, 0, 0), (60, .istore_n 3, 0, 0, 0), (61, .iinc 4 (-8), 0, 0, 0), (64, .goto (-58), 0, 0, 0), (67, .aload_n 0, 0, 0, 0), (68, .getfield 33, 1, 0, 0), (71, .iload_n 3, 0, 0, 0), (72, .iadd, 0, 0, 0), (73, .bipush 40, 0, 0, 0), (75, .if_icmp .le 13, 0, 0, 0), (78, .new 36, 99, 0, 0), (81, .dup, 0, 0, 0), (82, .ldc 38, 0, 0, 0), (84, .invokespecial 40, 0, 0, 0), (87, .athrow, 0, 0, 0), (88, .bipush 56, 0, 0, 0), (90, .istore 4, 0, 0, 0), (92, .iload 4, 0, 0, 0), (94, .ifCond .lt 44, 0, 0, 0), (97, .lload_n 1, 0, 0, 0), (98, .iload 4, 0, 0, 0), (100, .invokestatic 22, 0, 0, 0), (103, .istore 5, 0, 0, 0), (105, .iload 5, 0, 0, 0), (107, .ifCond .eq 25, 0, 0, 0), (110, .aload_n 0, 0, 0, 0), (111, .getfield 15, 1, 2, 0), (114, .aload_n 0, 0, 0, 0), (115, .getfield 33, 1, 0, 0), (118, .iload 5, 0, 0, 0), (120, .i2c, 0, 0, 0), (121, .castore, 0, 0, 0), (122, .aload_n 0, 0, 0, 0), (123, .dup, 0, 0, 0), (124, .getfield 33, 1, 0, 0), (127, .iconst 1, 0, 0, 0), (128, .iadd, 0, 0, 0), (129, .putfield 33, 1, 0, 0), (132, .iinc 4 (-8), 0, 0, 0), (135, .goto (-43), 0, 0, 0), (138, .aload_n 0, 0, 0, 0), (139, .getfield 33, 1, 0, 0), (142, .ireturn, 0, 0, 0)]
/-- NeedMachine$Text.byteAt(JI)I -/
def zm_c14 : List (Nat × zm_I) := [(0, .lload_n 0, 0, 0, 0), (1, .iload_n 2, 0, 0, 0), (2, .lushr, 0, 0, 0), (3, .l2i, 0, 0, 0), (4, .sipush 255, 0, 0, 0), (7, .iand, 0, 0, 0), (8, .ireturn, 0, 0, 0)]
/-- NeedMachineLaw.define(LNeedMachine;[J)I -/
def zm_c15 : List (Nat × zm_I) := [(0, .aload_n 1, 0, 0, 0), (1, .iconst 0, 0, 0, 0), (2, .aload_n 0, 0, 0, 0), (3, .invokevirtual 17, 0, 0, 0), (6, .i2l, 0, 0, 0), (7, .lastore, 0, 0, 0), (8, .goto 6, 0, 0, 0), (11, .astore_n 2, 0, 0, 0), (12, .iconst 1, 0, 0, 0), (13, .ireturn, 0, 0, 0), (14, .iconst 0, 0, 0, 0), (15, .ireturn, 0, 0, 0)]
/-- NeedMachine.define()I -/
def zm_c16 : List (Nat × zm_I) := [(0, .aload_n 0, 0, 0, 0), (1, .getfield 10, 0, 0, 0), (4, .invokevirtual 33, 0, 0, 0), (7, .astore_n 1, 0, 0, 0), (8, .aload_n 0, 0, 0, 0), (9, .getfield 25, 0, 2, 0), (12, .aload_n 1, 0, 0, 0), (13, .getfield 37, 6, 0, 0), (16, .aload_n 1, 0, 0, 0), (17, .aastore, 0, 0, 0), (18, .aload_n 1, 0, 0, 0), (19, .getfield 41, 6, 1, 0), (22, .ireturn, 0, 0, 0)]
/-- NeedMachine$Text.readDefinition()LNeedMachine$Definition; -/
def zm_c17 : List (Nat × zm_I) := [(0, .aload_n 0, 0, 0, 0), (1, .invokevirtual 41, 0, 0, 0), (4, .aload_n 0, 0, 0, 0), (5, .aload_n 0, 0, 0, 0), (6, .getfield 44, 1, 6, 0), (9, .aload_n 0, 0, 0, 0), (10, .getfield 47, 1, 5, 0), (13, .if_icmp .ge 22, 0, 0, 0), (16, .aload_n 0, 0, 0, 0), (17, .getfield 15, 1, 2, 0), (20, .aload_n 0, 0, 0, 0), (21, .getfield 44, 1, 6, 0), (24, .caload, 0, 0, 0), (25, .invokestatic 50, 0, 0, 0), (28, .ifCond .eq 7, 0, 0, 0), (31, .iconst 1, 0, 0, 0), (32, .goto 4, 0, 0, 0), (35, .iconst 0, 0, 0, 0), (36, .invokevirtual 54, 0, 0, 0), (39, .aload_n 0, 0, 0, 0), (40, .getfield 15, 1, 2, 0), (43, .aload_n 0, 0, 0, 0), (44, .getfield 44, 1, 6, 0), (47, .caload, 0, 0, 0), (48, .bipush 65, 0, 0, 0), (50, .isub, 0, 0, 0), (51, .istore_n 1, 0, 0, 0), (52, .aload_n 0, 0, 0, 0), (53, .dup, 0, 0, 0), (54, .getfield 44, 1, 6, 0), (57, .iconst 1, 0, 0, 0), (58, .iadd, 0, 0, 0), (59, .putfield 44, 1, 6, 0), (62, .aload_n 0, 0, 0, 0), (63, .invokevirtual 58, 0, 0, 0), (66, .aload_n 0, 0, 0, 0), (67, .aload_n 0, 0, 0, 0), (68, .getfield 44, 1, 6, 0), (71, .aload_n 0, 0, 0, 0), (72, .getfield 47, 1, 5, 0), (75, .if_icmp .ge 21, 0, 0, 0), (78, .aload_n 0, 0, 0, 0), (79, .getfield 15, 1, 2, 0), (82, .aload_n 0, 0, 0, 0), (83, .getfield 44, 1, 6, 0), (86, .caload, 0, 0, 0), (87, .bipush 61, 0, 0, 0), (89, .if_icmp .ne 7, 0, 0, 0), (92, .iconst 1, 0, 0, 0), (93, .goto 4, 0, 0, 0), (96, .iconst 0, 0, 0, 0), (97, .invokevirtual 54, 0, 0, 0), (100, .aload_n 0, 0, 0, 0), (101, .dup, 0, 0, 0), (102, .getfield 44, 1, 6, 0), (105, .iconst 1, 0, 0, 0), (106, .iadd, 0, 0, 0), (107, .putfield 44, 1, 6, 0), (110, .new 61, 6, 0, 0), (113, .dup, 0, 0, 0), (114, .iload_n 1, 0, 0, 0), (115, .aload_n 0, 0, 0, 0), (116, .getfield 63, 1, 4, 0), (119, .aload_n 0, 0, 0, 0), (120, .invokevirtual 66, 0, 0, 0), (123, .invokespecial 70, 0, 0, 0), (126, .areturn, 0, 0, 0)]
/-- NeedMachine$Text.beginReading()V -/
def zm_c18 : List (Nat × zm_I) := [(0, .aload_n 0, 0, 0, 0), (1, .aload_n 0, 0, 0, 0), (2, .getfield 33, 1, 0, 0), (5, .putfield 47, 1, 5, 0), (8, .aload_n 0, 0, 0, 0), (9, .iconst 0, 0, 0, 0), (10, .putfield 33, 1, 0, 0), (13, .aload_n 0, 0, 0, 0), (14, .iconst 0, 0, 0, 0), (15, .putfield 44, 1, 6, 0), (18, .aload_n 0, 0, 0, 0), (19, .iconst 0, 0, 0, 0), (20, .putfield 63, 1, 4, 0), (23, .return_, 0, 0, 0)]
/-- NeedMachine$Text.isName(C)Z -/
def zm_c19 : List (Nat × zm_I) := [(0, .iload_n 0, 0, 0, 0), (1, .bipush 65, 0, 0, 0), (3, .if_icmp .lt 13, 0, 0, 0), (6, .iload_n 0, 0, 0, 0), (7, .bipush 71, 0, 0, 0), (9, .if_icmp .ge 7, 0, 0, 0), (12, .iconst 1, 0, 0, 0), (13, .goto 4, 0, 0, 0), (16, .iconst 0, 0, 0, 0), (17, .ireturn, 0, 0, 0)]
/-- NeedMachine$Text.refuseUnless(Z)V -/
def zm_c20 : List (Nat × zm_I) := [(0, .iload_n 1, 0, 0, 0), (1, .ifCond .ne 21, 0, 0, 0), (4, .aload_n 0, 0, 0, 0), (5, .aload_n 0, 0, 0, 0), (6, .getfield 44, 1, 6, 0), (9, .putfield 9, 1, 1, 0), (12, .new 26, 99, 0, 0), (15, .dup, 0, 0, 0), (16, .ldc 109, 0, 0, 0), (18, .invokespecial 30, 0, 0, 0), (21, .athrow, 0, 0, 0), (22, .return_, 0, 0, 0)]
/-- NeedMachine$Text.readParameters()V -/
def zm_c21 : List (Nat × zm_I) := [(0, .aload_n 0, 0, 0, 0), (1, .getfield 63, 1, 4, 0), (4, .iconst 4, 0, 0, 0), (5, .if_icmp .ge 71, 0, 0, 0), (8, .aload_n 0, 0, 0, 0), (9, .getfield 44, 1, 6, 0), (12, .aload_n 0, 0, 0, 0), (13, .getfield 47, 1, 5, 0), (16, .if_icmp .ge 60, 0, 0, 0), (19, .aload_n 0, 0, 0, 0), (20, .aload_n 0, 0, 0, 0), (21, .getfield 15, 1, 2, 0), (24, .aload_n 0, 0, 0, 0), (25, .getfield 44, 1, 6, 0), (28, .caload, 0, 0, 0), (29, .invokevirtual 73, 0, 0, 0), (32, .ifCond .eq 44, 0, 0, 0), (35, .aload_n 0, 0, 0, 0), (36, .getfield 19, 1, 3, 0), (39, .aload_n 0, 0, 0, 0), (40, .getfield 63, 1, 4, 0), (43, .aload_n 0, 0, 0, 0), (44, .getfield 15, 1, 2, 0), (47, .aload_n 0, 0, 0, 0), (48, .getfield 44, 1, 6, 0), (51, .caload, 0, 0, 0), (52, .castore, 0, 0, 0), (53, .aload_n 0, 0, 0, 0), (54, .dup, 0, 0, 0), (55, .getfield 63, 1, 4, 0), (58, .iconst 1, 0, 0, 0), (59, .iadd, 0, 0, 0), (60, .putfield 63, 1, 4, 0), (63, .aload_n 0, 0, 0, 0), (64, .dup, 0, 0, 0), (65, .getfield 44, 1, 6, 0), (68, .iconst 1, 0, 0, 0), (69, .iadd, 0, 0, 0), (70, .putfield 44, 1, 6, 0), (73, .goto (-73), 0, 0, 0), (76, .return_, 0, 0, 0)]
/-- NeedMachine$Text.isNewParameter(C)Z -/
def zm_c22 : List (Nat × zm_I) := [(0, .iload_n 1, 0, 0, 0), (1, .bipush 97, 0, 0, 0), (3, .if_icmp .lt 21, 0, 0, 0), (6, .iload_n 1, 0, 0, 0), (7, .bipush 102, 0, 0, 0), (9, .if_icmp .gt 15, 0, 0, 0), (12, .aload_n 0, 0, 0, 0), (13, .iload_n 1, 0, 0, 0), (14, .invokevirtual 103, 0, 0, 0), (17, .ifCond .ge 7, 0, 0, 0), (20, .iconst 1, 0, 0, 0), (21, .goto 4, 0, 0, 0), (24, .iconst 0, 0, 0, 0), (25, .ireturn, 0, 0, 0)]
/-- NeedMachine$Text.parameterIndex(C)I -/
def zm_c23 : List (Nat × zm_I) := [(0, .iconst 0, 0, 0, 0), (1, .istore_n 2, 0, 0, 0), (2, .iload_n 2, 0, 0, 0), (3, .aload_n 0, 0, 0, 0), (4, .getfield 63, 1, 4, 0), (7, .if_icmp .ge 21, 0, 0, 0), (10, .aload_n 0, 0, 0, 0), (11, .getfield 19, 1, 3, 0), (14, .iload_n 2, 0, 0, 0), (15, .caload, 0, 0, 0), (16, .iload_n 1, 0, 0, 0), (17, .if_icmp .ne 5, 0, 0, 0), (20, .iload_n 2, 0, 0, 0), (21, .ireturn, 0, 0, 0), (22, .iinc 2 1, 0, 0, 0), (25, .goto (-23), 0, 0, 0), (28, .iconst (-1), 0, 0, 0), (29, .ireturn, 0, 0, 0)]
/-- NeedMachine$Text.readToTheEnd()LNeedMachine$Expression; -/
def zm_c24 : List (Nat × zm_I) := [(0, .aload_n 0, 0, 0, 0), (1, .iconst 1, 0, 0, 0), (2, .putfield 76, 1, 7, 0), (5, .aload_n 0, 0, 0, 0), (6, .iconst 1, 0, 0, 0), (7, .invokevirtual 79, 0, 0, 0), (10, .astore_n 1, 0, 0, 0), (11, .aload_n 0, 0, 0, 0), (12, .aload_n 0, 0, 0, 0), (13, .getfield 44, 1, 6, 0), (16, .aload_n 0, 0, 0, 0), (17, .getfield 47, 1, 5, 0), (20, .if_icmp .ne 7, 0, 0, 0), (23, .iconst 1, 0, 0, 0), (24, .goto 4, 0, 0, 0), (27, .iconst 0, 0, 0, 0), (28, .invokevirtual 54, 0, 0, 0), (31, .aload_n 1, 0, 0, 0), (32, .areturn, 0, 0, 0)]
/-- NeedMachine$Text.readExpression(I)LNeedMachine$Expression; -/
def zm_c25 : List (Nat × zm_I) := [(0, .aload_n 0, 0, 0, 0), (1, .aload_n 0, 0, 0, 0), (2, .getfield 44, 1, 6, 0), (5, .aload_n 0, 0, 0, 0), (6, .getfield 47, 1, 5, 0), (9, .if_icmp .ge 24, 0, 0, 0), (12, .aload_n 0, 0, 0, 0), (13, .aload_n 0, 0, 0, 0), (14, .getfield 15, 1, 2, 0), (17, .aload_n 0, 0, 0, 0), (18, .getfield 44, 1, 6, 0), (21, .caload, 0, 0, 0), (22, .iload_n 1, 0, 0, 0), (23, .invokevirtual 83, 0, 0, 0), (26, .ifCond .eq 7, 0, 0, 0), (29, .iconst 1, 0, 0, 0), (30, .goto 4, 0, 0, 0), (33, .iconst 0, 0, 0, 0), (34, .invokevirtual 54, 0, 0, 0), (37, .aload_n 0, 0, 0, 0), (38, .getfield 15, 1, 2, 0), (41, .aload_n 0, 0, 0, 0), (42, .getfield 44, 1, 6, 0), (45, .caload, 0, 0, 0), (46, .istore_n 2, 0, 0, 0), (47, .iload_n 2, 0, 0, 0), (48, .invokestatic 87, 0, 0, 0), (51, .istore_n 3, 0, 0, 0), (52, .aload_n 0, 0, 0, 0), (53, .dup, 0, 0, 0), (54, .getfield 44, 1, 6, 0), (57, .iconst 1, 0, 0, 0), (58, .iadd, 0, 0, 0), (59, .putfield 44, 1, 6, 0), (62, .aload_n 0, 0, 0, 0), (63, .dup, 0, 0, 0), (64, .getfield 76, 1, 7, 0), (67, .iload_n 3, 0, 0, 0), (68, .iconst 1, 0, 0, 0), (69, .isub, 0, 0, 0), (70, .iadd, 0, 0, 0), (71, .putfield 76, 1, 7, 0), (74, .iload_n 3, 0, 0, 0), (75, .ifCond .ne 9, 0, 0, 0), (78, .aload_n 0, 0, 0, 0), (79, .iload_n 2, 0, 0, 0), (80, .invokevirtual 91, 0, 0, 0), (83, .areturn, 0, 0, 0), (84, .aload_n 0, 0, 0, 0), (85, .iload_n 1, 0, 0, 0), (86, .iconst 1, 0, 0, 0), (87, .iadd, 0, 0, 0), (88, .invokevirtual 79, 0, 0, 0), (91, .astore 4, 0, 0, 0), (93, .iload_n 3, 0, 0, 0), (94, .iconst 1, 0, 0, 0), (95, .if_icmp .le 13, 0, 0, 0), (98, .aload_n 0, 0, 0, 0), (99, .iload_n 1, 0, 0, 0), (100, .iconst 1, 0, 0, 0), (101, .iadd, 0, 0, 0), (102, .invokevirtual 79, 0, 0, 0), (105, .goto 4, 0, 0, 0), (108, .aconst_null, 0, 0, 0), (109, .astore 5, 0, 0, 0), (111, .iload_n 3, 0, 0, 0), (112, .iconst 2, 0, 0, 0), (113, .if_icmp .le 13, 0, 0, 0), (116, .aload_n 0, 0, 0, 0), (117, .iload_n 1, 0, 0, 0), (118, .iconst 1, 0, 0, 0), (119, .iadd, 0, 0, 0), (120, .invokevirtual 79, 0, 0, 0), (123, .goto 4, 0, 0, 0), (126, .aconst_null, 0, 0, 0), (127, .astore 6, 0, 0, 0), (129, .new 95, 7, 0, 0), (132, .dup, 0, 0, 0), (133, .iload_n 2, 0, 0, 0), (134, .iconst 0, 0, 0, 0), (135, .aload 4, 0, 0, 0), (137, .aload 5, 0, 0, 0), (139, .aload 6, 0, 0, 0), (141, .invokespecial 97, 0, 0, 0), (144, .areturn, 0, 0, 0)]
/-- NeedMachine$Text.canStand(CI)Z -/
def zm_c26 : List (Nat × zm_I) := [(0, .iload_n 1, 0, 0, 0), (1, .invokestatic 87, 0, 0, 0), (4, .istore_n 3, 0, 0, 0), (5, .iload_n 3, 0, 0, 0), (6, .ifCond .ne 9, 0, 0, 0), (9, .aload_n 0, 0, 0, 0), (10, .iload_n 1, 0, 0, 0), (11, .invokevirtual 106, 0, 0, 0), (14, .ireturn, 0, 0, 0), (15, .iload_n 2, 0, 0, 0), (16, .bipush 12, 0, 0, 0), (18, .if_icmp .ge 23, 0, 0, 0), (21, .aload_n 0, 0, 0, 0), (22, .getfield 44, 1, 6, 0), (25, .aload_n 0, 0, 0, 0), (26, .getfield 76, 1, 7, 0), (29, .iadd, 0, 0, 0), (30, .iload_n 3, 0, 0, 0), (31, .iadd, 0, 0, 0), (32, .bipush 40, 0, 0, 0), (34, .if_icmp .gt 7, 0, 0, 0), (37, .iconst 1, 0, 0, 0), (38, .goto 4, 0, 0, 0), (41, .iconst 0, 0, 0, 0), (42, .ireturn, 0, 0, 0)]
/-- NeedMachine$Text.partsOf(C)I -/
def zm_c27 : List (Nat × zm_I) := [(0, .iload_n 0, 0, 0, 0), (1, .lookupswitch 121 #[(37, 117), (42, 117), (43, 117), (45, 117), (46, 117), (47, 117), (58, 117), (60, 117), (61, 117), (63, 119), (104, 115), (116, 115), (122, 115)], 115, 0, 0), (116, .iconst 1, 0, 0, 0), (117, .ireturn, 0, 0, 0), (118, .iconst 2, 0, 0, 0), (119, .ireturn, 0, 0, 0), (120, .iconst 3, 0, 0, 0), (121, .ireturn, 0, 0, 0), (122, .iconst 0, 0, 0, 0), (123, .ireturn, 0, 0, 0)]
/-- NeedMachine$Text.isLeaf(C)Z -/
def zm_c28 : List (Nat × zm_I) := [(0, .iload_n 1, 0, 0, 0), (1, .invokestatic 100, 0, 0, 0), (4, .ifCond .ne 24, 0, 0, 0), (7, .iload_n 1, 0, 0, 0), (8, .invokestatic 50, 0, 0, 0), (11, .ifCond .ne 17, 0, 0, 0), (14, .iload_n 1, 0, 0, 0), (15, .bipush 110, 0, 0, 0), (17, .if_icmp .eq 11, 0, 0, 0), (20, .aload_n 0, 0, 0, 0), (21, .iload_n 1, 0, 0, 0), (22, .invokevirtual 103, 0, 0, 0), (25, .ifCond .lt 7, 0, 0, 0), (28, .iconst 1, 0, 0, 0), (29, .goto 4, 0, 0, 0), (32, .iconst 0, 0, 0, 0), (33, .ireturn, 0, 0, 0)]
/-- NeedMachine$Text.isDigit(C)Z -/
def zm_c29 : List (Nat × zm_I) := [(0, .iload_n 0, 0, 0, 0), (1, .bipush 48, 0, 0, 0), (3, .if_icmp .lt 13, 0, 0, 0), (6, .iload_n 0, 0, 0, 0), (7, .bipush 57, 0, 0, 0), (9, .if_icmp .gt 7, 0, 0, 0), (12, .iconst 1, 0, 0, 0), (13, .goto 4, 0, 0, 0), (16, .iconst 0, 0, 0, 0), (17, .ireturn, 0, 0, 0)]
/-- NeedMachine$Text.readLeaf(C)LNeedMachine$Expression; -/
def zm_c30 : List (Nat × zm_I) := [(0, .iload_n 1, 0, 0, 0), (1, .invokestatic 100, 0, 0, 0), (4, .ifCond .eq 20, 0, 0, 0), (7, .new 95, 7, 0, 0), (10, .dup, 0, 0, 0), (11, .bipush 48, 0, 0, 0), (13, .iload_n 1, 0, 0, 0), (14, .bipush 48, 0, 0, 0), (16, .isub, 0, 0, 0), (17, .aconst_null, 0, 0, 0), (18, .aconst_null, 0, 0, 0), (19, .aconst_null, 0, 0, 0), (20, .invokespecial 97, 0, 0, 0), (23, .areturn, 0, 0, 0), (24, .iload_n 1, 0, 0, 0), (25, .invokestatic 50, 0, 0, 0), (28, .ifCond .eq 20, 0, 0, 0), (31, .new 95, 7, 0, 0), (34, .dup, 0, 0, 0), (35, .bipush 65, 0, 0, 0), (37, .iload_n 1, 0, 0, 0), (38, .bipush 65, 0, 0, 0), (40, .isub, 0, 0, 0), (41, .aconst_null, 0, 0, 0), (42, .aconst_null, 0, 0, 0), (43, .aconst_null, 0, 0, 0), (44, .invokespecial 97, 0, 0, 0), (47, .areturn, 0, 0, 0), (48, .aload_n 0, 0, 0, 0), (49, .iload_n 1, 0, 0, 0), (50, .invokevirtual 103, 0, 0, 0), (53, .istore_n 2, 0, 0, 0), (54, .iload_n 2, 0, 0, 0), (55, .ifCond .lt 17, 0, 0, 0), (58, .new 95, 7, 0, 0), (61, .dup, 0, 0, 0), (62, .bipush 97, 0, 0, 0), (64, .iload_n 2, 0, 0, 0), (65, .aconst_null, 0, 0, 0), (66, .aconst_null, 0, 0, 0), (67, .aconst_null, 0, 0, 0), (68, .invokespecial 97, 0, 0, 0), (71, .areturn, 0, 0, 0), (72, .new 95, 7, 0, 0), (75, .dup, 0, 0, 0), (76, .bipush 110, 0, 0, 0), (78, .iconst 0, 0, 0, 0), (79, .aconst_null, 0, 0, 0), (80, .aconst_null, 0, 0, 0), (81, .aconst_null, 0, 0, 0), (82, .invokespecial 97, 0, 0, 0), (85, .areturn, 0, 0, 0)]
/-- NeedMachine$Expression.<init>(CILNeedMachine$Expression;LNeedMachine$Expression;LNeedMachine$Expression;)V -/
def zm_c31 : List (Nat × zm_I) := [(0, .aload_n 0, 0, 0, 0), (1, .invokespecial 1, 0, 0, 0), (4, .aload_n 0, 0, 0, 0), (5, .iload_n 1, 0, 0, 0), (6, .putfield 7, 7, 0, 0), (9, .aload_n 0, 0, 0, 0), (10, .iload_n 2, 0, 0, 0), (11, .putfield 13, 7, 1, 0), (14, .aload_n 0, 0, 0, 0), (15, .aload_n 3, 0, 0, 0), (16, .putfield 17, 7, 2, 0), (19, .aload_n 0, 0, 0, 0), (20, .aload 4, 0, 0, 0), (22, .putfield 21, 7, 3, 0), (25, .aload_n 0, 0, 0, 0), (26, .aload 5, 0, 0, 0), (28, .putfield 24, 7, 4, 0), (31, .return_, 0, 0, 0)]
/-- NeedMachine$Definition.<init>(IILNeedMachine$Expression;)V -/
def zm_c32 : List (Nat × zm_I) := [(0, .aload_n 0, 0, 0, 0), (1, .invokespecial 1, 0, 0, 0), (4, .aload_n 0, 0, 0, 0), (5, .iload_n 1, 0, 0, 0), (6, .putfield 7, 6, 0, 0), (9, .aload_n 0, 0, 0, 0), (10, .iload_n 2, 0, 0, 0), (11, .putfield 13, 6, 1, 0), (14, .aload_n 0, 0, 0, 0), (15, .aload_n 3, 0, 0, 0), (16, .putfield 16, 6, 2, 0), (19, .return_, 0, 0, 0)]
/-- NeedMachineLaw.ask(LNeedMachine;[J)I -/
def zm_c33 : List (Nat × zm_I) := [(0, .aload_n 1, 0, 0, 0), (1, .iconst 0, 0, 0, 0), (2, .aload_n 0, 0, 0, 0), (3, .invokevirtual 21, 0, 0, 0), (6, .i2l, 0, 0, 0), (7, .lastore, 0, 0, 0), (8, .goto 18, 0, 0, 0), (11, .astore_n 2, 0, 0, 0), (12, .iconst 1, 0, 0, 0), (13, .ireturn, 0, 0, 0), (14, .astore_n 2, 0, 0, 0), (15, .iconst 2, 0, 0, 0), (16, .ireturn, 0, 0, 0), (17, .astore_n 2, 0, 0, 0), (18, .iconst 3, 0, 0, 0), (19, .ireturn, 0, 0, 0), (20, .astore_n 2, 0, 0, 0), (21, .iconst 4, 0, 0, 0), (22, .ireturn, 0, 0, 0), (23, .astore_n 2, 0, 0, 0), (24, .iconst 5, 0, 0, 0), (25, .ireturn, 0, 0, 0), (26, .iconst 0, 0, 0, 0), (27, .ireturn, 0, 0, 0)]
/-- NeedMachine.ask()I -/
def zm_c34 : List (Nat × zm_I) := [(0, .aload_n 0, 0, 0, 0), (1, .getfield 10, 0, 0, 0), (4, .invokevirtual 44, 0, 0, 0), (7, .astore_n 1, 0, 0, 0), (8, .aload_n 0, 0, 0, 0), (9, .aconst_null, 0, 0, 0), (10, .putfield 48, 0, 3, 0), (13, .aload_n 0, 0, 0, 0), (14, .getfield 19, 0, 1, 0), (17, .invokevirtual 52, 0, 0, 0), (20, .aload_n 0, 0, 0, 0), (21, .iconst 0, 0, 0, 0), (22, .putfield 55, 0, 4, 0), (25, .aload_n 0, 0, 0, 0), (26, .iconst 0, 0, 0, 0), (27, .putfield 58, 0, 8, 0), (30, .aload_n 0, 0, 0, 0), (31, .aload_n 0, 0, 0, 0), (32, .aload_n 1, 0, 0, 0), (33, .aconst_null, 0, 0, 0), (34, .iconst 1, 0, 0, 0), (35, .invokevirtual 61, 0, 0, 0), (38, .putfield 48, 0, 3, 0), (41, .aload_n 0, 0, 0, 0), (42, .getfield 48, 0, 3, 0), (45, .getfield 65, 3, 0, 0), (48, .ireturn, 0, 0, 0)]
/-- NeedMachine$Text.readAsked()LNeedMachine$Expression; -/
def zm_c35 : List (Nat × zm_I) := [(0, .aload_n 0, 0, 0, 0), (1, .invokevirtual 41, 0, 0, 0), (4, .aload_n 0, 0, 0, 0), (5, .invokevirtual 66, 0, 0, 0), (8, .areturn, 0, 0, 0)]
/-- NeedMachine$Store.takeAllBack()V -/
def zm_c36 : List (Nat × zm_I) := [(0, .aload_n 0, 0, 0, 0), (1, .iconst 0, 0, 0, 0), (2, .putfield 35, 2, 4, 0), (5, .aload_n 0, 0, 0, 0), (6, .iconst 0, 0, 0, 0), (7, .putfield 38, 2, 5, 0), (10, .aload_n 0, 0, 0, 0), (11, .iconst 0, 0, 0, 0), (12, .putfield 41, 2, 6, 0), (15, .return_, 0, 0, 0)]
/-- NeedMachine.work(LNeedMachine$Expression;LNeedMachine$Arguments;I)LNeedMachine$Value; -/
def zm_c37 : List (Nat × zm_I) := [(0, .iload_n 3, 0, 0, 0), (1, .bipush 60, 0, 0, 0), (3, .if_icmp .le 13, 0, 0, 0), (6, .new 128, 99, 0, 0), (9, .dup, 0, 0, 0), (10, .ldc 130, 0, 0, 0), (12, .invokespecial 132, 0, 0, 0), (15, .athrow, 0, 0, 0), (16, .aload_n 0, 0, 0, 0), (17, .aload_n 0, 0, 0, 0), (18, .getfield 58, 0, 8, 0), (21, .iload_n 3, 0, 0, 0), (22, .invokestatic 133, 0, 0, 0), (25, .putfield 58, 0, 8, 0), (28, .aload_n 1, 0, 0, 0), (29, .getfield 139, 7, 0, 0), (32, .lookupswitch 249 #[(46, 162), (48, 92), (58, 136), (63, 241), (65, 126), (97, 112), (104, 170), (110, 104), (116, 194), (122, 218)], 92, 0, 0), (124, .aload_n 0, 0, 0, 0), (125, .getfield 19, 0, 1, 0), (128, .aload_n 1, 0, 0, 0), (129, .getfield 145, 7, 1, 0), (132, .invokevirtual 148, 0, 0, 0), (135, .areturn, 0, 0, 0), (136, .aload_n 0, 0, 0, 0), (137, .getfield 19, 0, 1, 0), (140, .getfield 152, 2, 0, 0), (143, .areturn, 0, 0, 0), (144, .aload_n 0, 0, 0, 0), (145, .aload_n 2, 0, 0, 0), (146, .aload_n 1, 0, 0, 0), (147, .getfield 145, 7, 1, 0), (150, .invokestatic 155, 0, 0, 0), (153, .iload_n 3, 0, 0, 0), (154, .invokevirtual 89, 0, 0, 0), (157, .areturn, 0, 0, 0), (158, .aload_n 0, 0, 0, 0), (159, .aload_n 1, 0, 0, 0), (160, .getfield 145, 7, 1, 0), (163, .iload_n 3, 0, 0, 0), (164, .invokevirtual 159, 0, 0, 0), (167, .areturn, 0, 0, 0), (168, .aload_n 0, 0, 0, 0), (169, .getfield 19, 0, 1, 0), (172, .aload_n 0, 0, 0, 0), (173, .aload_n 1, 0, 0, 0), (174, .getfield 163, 7, 2, 0), (177, .aload_n 2, 0, 0, 0), (178, .invokevirtual 167, 0, 0, 0), (181, .aload_n 0, 0, 0, 0), (182, .aload_n 1, 0, 0, 0), (183, .getfield 171, 7, 3, 0), (186, .aload_n 2, 0, 0, 0), (187, .invokevirtual 167, 0, 0, 0), (190, .invokevirtual 174, 0, 0, 0), (193, .areturn, 0, 0, 0), (194, .aload_n 0, 0, 0, 0), (195, .aload_n 1, 0, 0, 0), (196, .aload_n 2, 0, 0, 0), (197, .iload_n 3, 0, 0, 0), (198, .invokevirtual 178, 0, 0, 0), (201, .areturn, 0, 0, 0), (202, .aload_n 0, 0, 0, 0), (203, .aload_n 0, 0, 0, 0), (204, .aload_n 1, 0, 0, 0), (205, .getfield 163, 7, 2, 0), (208, .aload_n 2, 0, 0, 0), (209, .iload_n 3, 0, 0, 0), (210, .iconst 1, 0, 0, 0), (211, .iadd, 0, 0, 0), (212, .invokevirtual 61, 0, 0, 0), (215, .invokestatic 124, 0, 0, 0), (218, .getfield 85, 3, 2, 0), (221, .iload_n 3, 0, 0, 0), (222, .invokevirtual 89, 0, 0, 0), (225, .areturn, 0, 0, 0), (226, .aload_n 0, 0, 0, 0), (227, .aload_n 0, 0, 0, 0), (228, .aload_n 1, 0, 0, 0), (229, .getfield 163, 7, 2, 0), (232, .aload_n 2, 0, 0, 0), (233, .iload_n 3, 0, 0, 0), (234, .iconst 1, 0, 0, 0), (235, .iadd, 0, 0, 0), (236, .invokevirtual 61, 0, 0, 0), (239, .invokestatic 124, 0, 0, 0), (242, .getfield 93, 3, 3, 0), (245, .iload_n 3, 0, 0, 0), (246, .invokevirtual 89, 0, 0, 0), (249, .areturn, 0, 0, 0), (250, .aload_n 0, 0, 0, 0), (251, .getfield 19, 0, 1, 0), (254, .aload_n 0, 0, 0, 0), (255, .aload_n 1, 0, 0, 0), (256, .getfield 163, 7, 2, 0), (259, .aload_n 2, 0, 0, 0), (260, .iload_n 3, 0, 0, 0), (261, .iconst 1, 0, 0, 0), (262, .iadd, 0, 0, 0), (263, .invokevirtual 61, 0, 0, 0), (266, .invokestatic 181, 0, 0, 0), (269, .invokevirtual 148, 0, 0, 0), (272, .areturn, 0, 0, 0), (273, .aload_n 0, 0, 0, 0), (274, .aload_n 1, 0, 0, 0), (275, .aload_n 2, 0, 0, 0), (276, .iload_n 3, 0, 0, 0), (277, .invokevirtual 184, 0, 0, 0), (280, .areturn, 0, 0, 0), (281, .aload_n 0, 0, 0, 0), (282, .aload_n 1, 0, 0, 0), (283, .aload_n 2, 0, 0, 0), (284, .iload_n 3, 0, 0, 0), (285, .invokevirtual 187, 0, 0, 0), (288, .areturn, 0, 0, 0)]
/-- NeedMachine$Store.makeNumber(I)LNeedMachine$Value; -/
def zm_c38 : List (Nat × zm_I) := [(0, .aload_n 0, 0, 0, 0), (1, .iconst 0, 0, 0, 0), (2, .invokevirtual 44, 0, 0, 0), (5, .astore_n 2, 0, 0, 0), (6, .aload_n 2, 0, 0, 0), (7, .iload_n 1, 0, 0, 0), (8, .putfield 48, 3, 1, 0), (11, .aload_n 2, 0, 0, 0), (12, .areturn, 0, 0, 0)]
/-- NeedMachine$Store.nextValue(I)LNeedMachine$Value; -/
def zm_c39 : List (Nat × zm_I) := [(0, .aload_n 0, 0, 0, 0), (1, .getfield 35, 2, 4, 0), (4, .aload_n 0, 0, 0, 0), (5, .getfield 25, 2, 1, 0), (8, .invokevirtual 62, 0, 0, 0), (11, .if_icmp .lt 18, 0, 0, 0), (14, .aload_n 0, 0, 0, 0), (15, .getfield 25, 2, 1, 0), (18, .new 9, 3, 0, 0), (21, .dup, 0, 0, 0), (22, .invokespecial 11, 0, 0, 0), (25, .invokevirtual 69, 0, 0, 0), (28, .pop, 0, 0, 0), (29, .aload_n 0, 0, 0, 0), (30, .getfield 25, 2, 1, 0), (33, .aload_n 0, 0, 0, 0), (34, .getfield 35, 2, 4, 0), (37, .invokevirtual 73, 0, 0, 0), (40, .checkcast 9, 3, 0, 0), (43, .astore_n 2, 0, 0, 0), (44, .aload_n 0, 0, 0, 0), (45, .dup, 0, 0, 0), (46, .getfield 35, 2, 4, 0), (49, .iconst 1, 0, 0, 0), (50, .iadd, 0, 0, 0), (51, .putfield 35, 2, 4, 0), (54, .aload_n 2, 0, 0, 0), (55, .iload_n 1, 0, 0, 0), (56, .putfield 18, 3, 0, 0), (59, .aload_n 2, 0, 0, 0), (60, .areturn, 0, 0, 0)]
/-- NeedMachine.argumentAt(LNeedMachine$Arguments;I)LNeedMachine$Closure; -/
def zm_c40 : List (Nat × zm_I) := [(0, .aload_n 0, 0, 0, 0), (1, .astore_n 2, 0, 0, 0), (2, .aload_n 2, 0, 0, 0), (3, .ifnull 26, 0, 0, 0), (6, .aload_n 2, 0, 0, 0), (7, .getfield 214, 9, 2, 0), (10, .iload_n 1, 0, 0, 0), (11, .iconst 1, 0, 0, 0), (12, .iadd, 0, 0, 0), (13, .if_icmp .ne 8, 0, 0, 0), (16, .aload_n 2, 0, 0, 0), (17, .getfield 259, 9, 1, 0), (20, .areturn, 0, 0, 0), (21, .aload_n 2, 0, 0, 0), (22, .getfield 262, 9, 0, 0), (25, .astore_n 2, 0, 0, 0), (26, .goto (-24), 0, 0, 0), (29, .new 128, 99, 0, 0), (32, .dup, 0, 0, 0), (33, .ldc_w 265, 0, 0, 0), (36, .invokespecial 132, 0, 0, 0), (39, .athrow, 0, 0, 0)]
/-- NeedMachine.force(LNeedMachine$Closure;I)LNeedMachine$Value; -/
def zm_c41 : List (Nat × zm_I) := [(0, .aload_n 1, 0, 0, 0), (1, .getfield 235, 8, 2, 0), (4, .ifCond .eq 18, 0, 0, 0), (7, .aload_n 0, 0, 0, 0), (8, .dup, 0, 0, 0), (9, .getfield 121, 0, 7, 0), (12, .iconst 1, 0, 0, 0), (13, .iadd, 0, 0, 0), (14, .putfield 121, 0, 7, 0), (17, .aload_n 1, 0, 0, 0), (18, .invokestatic 241, 0, 0, 0), (21, .areturn, 0, 0, 0), (22, .aload_n 1, 0, 0, 0), (23, .iconst 1, 0, 0, 0), (24, .putfield 235, 8, 2, 0), (27, .aload_n 0, 0, 0, 0), (28, .dup, 0, 0, 0), (29, .getfield 118, 0, 6, 0), (32, .iconst 1, 0, 0, 0), (33, .iadd, 0, 0, 0), (34, .putfield 118, 0, 6, 0), (37, .aload_n 0, 0, 0, 0), (38, .aload_n 1, 0, 0, 0), (39, .getfield 245, 8, 0, 0), (42, .aload_n 1, 0, 0, 0), (43, .getfield 248, 8, 1, 0), (46, .iload_n 2, 0, 0, 0), (47, .iconst 1, 0, 0, 0), (48, .iadd, 0, 0, 0), (49, .invokevirtual 61, 0, 0, 0), (52, .astore_n 3, 0, 0, 0), (53, .aload_n 1, 0, 0, 0), (54, .aload_n 3, 0, 0, 0), (55, .putfield 251, 8, 3, 0), (58, .aload_n 3, 0, 0, 0), (59, .areturn, 0, 0, 0)]
/-- NeedMachine.mustBeWorkedOut(LNeedMachine$Closure;)LNeedMachine$Value; -/
def zm_c42 : List (Nat × zm_I) := [(0, .aload_n 0, 0, 0, 0), (1, .getfield 251, 8, 3, 0), (4, .ifnonnull 14, 0, 0, 0), (7, .new 128, 99, 0, 0), (10, .dup, 0, 0, 0), (11, .ldc_w 267, 0, 0, 0), (14, .invokespecial 132, 0, 0, 0), (17, .athrow, 0, 0, 0), (18, .aload_n 0, 0, 0, 0), (19, .getfield 251, 8, 3, 0), (22, .areturn, 0, 0, 0)]
/-- NeedMachine.workName(II)LNeedMachine$Value; -/
def zm_c43 : List (Nat × zm_I) := [(0, .aload_n 0, 0, 0, 0), (1, .iload_n 1, 0, 0, 0), (2, .invokevirtual 101, 0, 0, 0), (5, .astore_n 3, 0, 0, 0), (6, .aload_n 3, 0, 0, 0), (7, .getfield 41, 6, 1, 0), (10, .ifCond .ne 11, 0, 0, 0), (13, .aload_n 0, 0, 0, 0), (14, .aload_n 3, 0, 0, 0), (15, .aconst_null, 0, 0, 0), (16, .iload_n 2, 0, 0, 0), (17, .invokevirtual 190, 0, 0, 0), (20, .areturn, 0, 0, 0), (21, .aload_n 0, 0, 0, 0), (22, .getfield 19, 0, 1, 0), (25, .iload_n 1, 0, 0, 0), (26, .aconst_null, 0, 0, 0), (27, .invokevirtual 194, 0, 0, 0), (30, .areturn, 0, 0, 0)]
/-- NeedMachine.definitionOf(I)LNeedMachine$Definition; -/
def zm_c44 : List (Nat × zm_I) := [(0, .aload_n 0, 0, 0, 0), (1, .getfield 25, 0, 2, 0), (4, .iload_n 1, 0, 0, 0), (5, .aaload, 0, 0, 0), (6, .astore_n 2, 0, 0, 0), (7, .aload_n 2, 0, 0, 0), (8, .ifnonnull 14, 0, 0, 0), (11, .new 70, 99, 0, 0), (14, .dup, 0, 0, 0), (15, .ldc_w 257, 0, 0, 0), (18, .invokespecial 74, 0, 0, 0), (21, .athrow, 0, 0, 0), (22, .aload_n 2, 0, 0, 0), (23, .areturn, 0, 0, 0)]
/-- NeedMachine.call(LNeedMachine$Definition;LNeedMachine$Arguments;I)LNeedMachine$Value; -/
def zm_c45 : List (Nat × zm_I) := [(0, .aload_n 0, 0, 0, 0), (1, .getfield 55, 0, 4, 0), (4, .sipush 400, 0, 0, 0), (7, .if_icmp .lt 13, 0, 0, 0), (10, .new 128, 99, 0, 0), (13, .dup, 0, 0, 0), (14, .ldc 219, 0, 0, 0), (16, .invokespecial 132, 0, 0, 0), (19, .athrow, 0, 0, 0), (20, .aload_n 0, 0, 0, 0), (21, .dup, 0, 0, 0), (22, .getfield 55, 0, 4, 0), (25, .iconst 1, 0, 0, 0), (26, .iadd, 0, 0, 0), (27, .putfield 55, 0, 4, 0), (30, .aload_n 0, 0, 0, 0), (31, .dup, 0, 0, 0), (32, .getfield 115, 0, 5, 0), (35, .iconst 1, 0, 0, 0), (36, .iadd, 0, 0, 0), (37, .putfield 115, 0, 5, 0), (40, .aload_n 0, 0, 0, 0), (41, .aload_n 1, 0, 0, 0), (42, .getfield 221, 6, 2, 0), (45, .aload_n 2, 0, 0, 0), (46, .iload_n 3, 0, 0, 0), (47, .iconst 1, 0, 0, 0), (48, .iadd, 0, 0, 0), (49, .invokevirtual 61, 0, 0, 0), (52, .areturn, 0, 0, 0)]
/-- NeedMachine$Store.makeFunction(ILNeedMachine$Arguments;)LNeedMachine$Value; -/
def zm_c46 : List (Nat × zm_I) := [(0, .aload_n 0, 0, 0, 0), (1, .iconst 3, 0, 0, 0), (2, .invokevirtual 44, 0, 0, 0), (5, .astore_n 3, 0, 0, 0), (6, .aload_n 3, 0, 0, 0), (7, .iload_n 1, 0, 0, 0), (8, .putfield 48, 3, 1, 0), (11, .aload_n 3, 0, 0, 0), (12, .aload_n 2, 0, 0, 0), (13, .putfield 58, 3, 4, 0), (16, .aload_n 3, 0, 0, 0), (17, .areturn, 0, 0, 0)]
/-- NeedMachine.closureOf(LNeedMachine$Expression;LNeedMachine$Arguments;)LNeedMachine$Closure; -/
def zm_c47 : List (Nat × zm_I) := [(0, .aload_n 1, 0, 0, 0), (1, .getfield 139, 7, 0, 0), (4, .bipush 97, 0, 0, 0), (6, .if_icmp .ne 12, 0, 0, 0), (9, .aload_n 2, 0, 0, 0), (10, .aload_n 1, 0, 0, 0), (11, .getfield 145, 7, 1, 0), (14, .invokestatic 155, 0, 0, 0), (17, .areturn, 0, 0, 0), (18, .aload_n 0, 0, 0, 0), (19, .getfield 19, 0, 1, 0), (22, .aload_n 1, 0, 0, 0), (23, .aload_n 2, 0, 0, 0), (24, .invokevirtual 254, 0, 0, 0), (27, .areturn, 0, 0, 0)]
/-- NeedMachine$Store.makeClosure(LNeedMachine$Expression;LNeedMachine$Arguments;)LNeedMachine$Closure; -/
def zm_c48 : List (Nat × zm_I) := [(0, .aload_n 0, 0, 0, 0), (1, .getfield 38, 2, 5, 0), (4, .aload_n 0, 0, 0, 0), (5, .getfield 29, 2, 2, 0), (8, .invokevirtual 62, 0, 0, 0), (11, .if_icmp .lt 18, 0, 0, 0), (14, .aload_n 0, 0, 0, 0), (15, .getfield 29, 2, 2, 0), (18, .new 66, 8, 0, 0), (21, .dup, 0, 0, 0), (22, .invokespecial 68, 0, 0, 0), (25, .invokevirtual 69, 0, 0, 0), (28, .pop, 0, 0, 0), (29, .aload_n 0, 0, 0, 0), (30, .getfield 29, 2, 2, 0), (33, .aload_n 0, 0, 0, 0), (34, .getfield 38, 2, 5, 0), (37, .invokevirtual 73, 0, 0, 0), (40, .checkcast 66, 8, 0, 0), (43, .astore_n 3, 0, 0, 0), (44, .aload_n 0, 0, 0, 0), (45, .dup, 0, 0, 0), (46, .getfield 38, 2, 5, 0), (49, .iconst 1, 0, 0, 0), (50, .iadd, 0, 0, 0), (51, .putfield 38, 2, 5, 0), (54, .aload_n 3, 0, 0, 0), (55, .aload_n 1, 0, 0, 0), (56, .putfield 77, 8, 0, 0), (59, .aload_n 3, 0, 0, 0), (60, .aload_n 2, 0, 0, 0), (61, .putfield 81, 8, 1, 0), (64, .aload_n 3, 0, 0, 0), (65, .iconst 0, 0, 0, 0), (66, .putfield 84, 8, 2, 0), (69, .aload_n 3, 0, 0, 0), (70, .aconst_null, 0, 0, 0), (71, .putfield 88, 8, 3, 0), (74, .aload_n 3, 0, 0, 0), (75, .areturn, 0, 0, 0)]
/-- NeedMachine$Closure.<init>()V -/
def zm_c49 : List (Nat × zm_I) := [(0, .aload_n 0, 0, 0, 0), (1, .invokespecial 1, 0, 0, 0), (4, .return_, 0, 0, 0)]
/-- NeedMachine$Store.makePair(LNeedMachine$Closure;LNeedMachine$Closure;)LNeedMachine$Value; -/
def zm_c50 : List (Nat × zm_I) := [(0, .aload_n 0, 0, 0, 0), (1, .iconst 2, 0, 0, 0), (2, .invokevirtual 44, 0, 0, 0), (5, .astore_n 3, 0, 0, 0), (6, .aload_n 3, 0, 0, 0), (7, .aload_n 1, 0, 0, 0), (8, .putfield 51, 3, 2, 0), (11, .aload_n 3, 0, 0, 0), (12, .aload_n 2, 0, 0, 0), (13, .putfield 55, 3, 3, 0), (16, .aload_n 3, 0, 0, 0), (17, .areturn, 0, 0, 0)]
/-- NeedMachine.apply(LNeedMachine$Expression;LNeedMachine$Arguments;I)LNeedMachine$Value; -/
def zm_c51 : List (Nat × zm_I) := [(0, .aload_n 0, 0, 0, 0), (1, .aload_n 1, 0, 0, 0), (2, .getfield 163, 7, 2, 0), (5, .aload_n 2, 0, 0, 0), (6, .iload_n 3, 0, 0, 0), (7, .iconst 1, 0, 0, 0), (8, .iadd, 0, 0, 0), (9, .invokevirtual 61, 0, 0, 0), (12, .astore 4, 0, 0, 0), (14, .aload 4, 0, 0, 0), (16, .getfield 65, 3, 0, 0), (19, .iconst 3, 0, 0, 0), (20, .if_icmp .eq 13, 0, 0, 0), (23, .new 198, 99, 0, 0), (26, .dup, 0, 0, 0), (27, .ldc 200, 0, 0, 0), (29, .invokespecial 202, 0, 0, 0), (32, .athrow, 0, 0, 0), (33, .aload_n 0, 0, 0, 0), (34, .aload 4, 0, 0, 0), (36, .getfield 203, 3, 1, 0), (39, .invokevirtual 101, 0, 0, 0), (42, .astore 5, 0, 0, 0), (44, .aload_n 0, 0, 0, 0), (45, .getfield 19, 0, 1, 0), (48, .aload 4, 0, 0, 0), (50, .getfield 206, 3, 4, 0), (53, .aload_n 0, 0, 0, 0), (54, .aload_n 1, 0, 0, 0), (55, .getfield 171, 7, 3, 0), (58, .aload_n 2, 0, 0, 0), (59, .invokevirtual 167, 0, 0, 0), (62, .invokevirtual 210, 0, 0, 0), (65, .astore 6, 0, 0, 0), (67, .aload 6, 0, 0, 0), (69, .getfield 214, 9, 2, 0), (72, .aload 5, 0, 0, 0), (74, .getfield 41, 6, 1, 0), (77, .if_icmp .ge 18, 0, 0, 0), (80, .aload_n 0, 0, 0, 0), (81, .getfield 19, 0, 1, 0), (84, .aload 4, 0, 0, 0), (86, .getfield 203, 3, 1, 0), (89, .aload 6, 0, 0, 0), (91, .invokevirtual 194, 0, 0, 0), (94, .areturn, 0, 0, 0), (95, .aload_n 0, 0, 0, 0), (96, .aload 5, 0, 0, 0), (98, .aload 6, 0, 0, 0), (100, .iload_n 3, 0, 0, 0), (101, .invokevirtual 190, 0, 0, 0), (104, .areturn, 0, 0, 0)]
/-- NeedMachine$Store.makeArguments(LNeedMachine$Arguments;LNeedMachine$Closure;)LNeedMachine$Arguments; -/
def zm_c52 : List (Nat × zm_I) := [(0, .aload_n 0, 0, 0, 0), (1, .getfield 41, 2, 6, 0), (4, .aload_n 0, 0, 0, 0), (5, .getfield 32, 2, 3, 0), (8, .invokevirtual 62, 0, 0, 0), (11, .if_icmp .lt 18, 0, 0, 0), (14, .aload_n 0, 0, 0, 0), (15, .getfield 32, 2, 3, 0), (18, .new 91, 9, 0, 0), (21, .dup, 0, 0, 0), (22, .invokespecial 93, 0, 0, 0), (25, .invokevirtual 69, 0, 0, 0), (28, .pop, 0, 0, 0), (29, .aload_n 0, 0, 0, 0), (30, .getfield 32, 2, 3, 0), (33, .aload_n 0, 0, 0, 0), (34, .getfield 41, 2, 6, 0), (37, .invokevirtual 73, 0, 0, 0), (40, .checkcast 91, 9, 0, 0), (43, .astore_n 3, 0, 0, 0), (44, .aload_n 0, 0, 0, 0), (45, .dup, 0, 0, 0), (46, .getfield 41, 2, 6, 0), (49, .iconst 1, 0, 0, 0), (50, .iadd, 0, 0, 0), (51, .putfield 41, 2, 6, 0), (54, .aload_n 3, 0, 0, 0), (55, .aload_n 1, 0, 0, 0), (56, .putfield 94, 9, 0, 0), (59, .aload_n 3, 0, 0, 0), (60, .aload_n 2, 0, 0, 0), (61, .putfield 97, 9, 1, 0), (64, .aload_n 3, 0, 0, 0), (65, .aload_n 1, 0, 0, 0), (66, .ifnonnull 7, 0, 0, 0), (69, .iconst 1, 0, 0, 0), (70, .goto 9, 0, 0, 0), (73, .aload_n 1, 0, 0, 0), (74, .getfield 100, 9, 2, 0), (77, .iconst 1, 0, 0, 0), (78, .iadd, 0, 0, 0), (79, .putfield 100, 9, 2, 0), (82, .aload_n 3, 0, 0, 0), (83, .areturn, 0, 0, 0)]
/-- NeedMachine$Arguments.<init>()V -/
def zm_c53 : List (Nat × zm_I) := [(0, .aload_n 0, 0, 0, 0), (1, .invokespecial 1, 0, 0, 0), (4, .return_, 0, 0, 0)]
/-- NeedMachine.mustBePair(LNeedMachine$Value;)LNeedMachine$Value; -/
def zm_c54 : List (Nat × zm_I) := [(0, .aload_n 0, 0, 0, 0), (1, .getfield 65, 3, 0, 0), (4, .iconst 1, 0, 0, 0), (5, .if_icmp .ne 14, 0, 0, 0), (8, .new 70, 99, 0, 0), (11, .dup, 0, 0, 0), (12, .ldc_w 271, 0, 0, 0), (15, .invokespecial 74, 0, 0, 0), (18, .athrow, 0, 0, 0), (19, .aload_n 0, 0, 0, 0), (20, .getfield 65, 3, 0, 0), (23, .iconst 2, 0, 0, 0), (24, .if_icmp .eq 14, 0, 0, 0), (27, .new 198, 99, 0, 0), (30, .dup, 0, 0, 0), (31, .ldc_w 273, 0, 0, 0), (34, .invokespecial 202, 0, 0, 0), (37, .athrow, 0, 0, 0), (38, .aload_n 0, 0, 0, 0), (39, .areturn, 0, 0, 0)]
/-- NeedMachine.isNil(LNeedMachine$Value;)I -/
def zm_c55 : List (Nat × zm_I) := [(0, .aload_n 0, 0, 0, 0), (1, .getfield 65, 3, 0, 0), (4, .iconst 1, 0, 0, 0), (5, .if_icmp .eq 22, 0, 0, 0), (8, .aload_n 0, 0, 0, 0), (9, .getfield 65, 3, 0, 0), (12, .iconst 2, 0, 0, 0), (13, .if_icmp .eq 14, 0, 0, 0), (16, .new 198, 99, 0, 0), (19, .dup, 0, 0, 0), (20, .ldc_w 275, 0, 0, 0), (23, .invokespecial 202, 0, 0, 0), (26, .athrow, 0, 0, 0), (27, .aload_n 0, 0, 0, 0), (28, .getfield 65, 3, 0, 0), (31, .iconst 1, 0, 0, 0), (32, .if_icmp .ne 7, 0, 0, 0), (35, .iconst 1, 0, 0, 0), (36, .goto 4, 0, 0, 0), (39, .iconst 0, 0, 0, 0), (40, .ireturn, 0, 0, 0)]
/-- NeedMachine.choose(LNeedMachine$Expression;LNeedMachine$Arguments;I)LNeedMachine$Value; -/
def zm_c56 : List (Nat × zm_I) := [(0, .aload_n 0, 0, 0, 0), (1, .aload_n 1, 0, 0, 0), (2, .getfield 163, 7, 2, 0), (5, .aload_n 2, 0, 0, 0), (6, .iload_n 3, 0, 0, 0), (7, .iconst 1, 0, 0, 0), (8, .iadd, 0, 0, 0), (9, .invokevirtual 61, 0, 0, 0), (12, .invokestatic 77, 0, 0, 0), (15, .istore 4, 0, 0, 0), (17, .aload_n 0, 0, 0, 0), (18, .iload 4, 0, 0, 0), (20, .ifCond .eq 10, 0, 0, 0), (23, .aload_n 1, 0, 0, 0), (24, .getfield 171, 7, 3, 0), (27, .goto 7, 0, 0, 0), (30, .aload_n 1, 0, 0, 0), (31, .getfield 224, 7, 4, 0), (34, .aload_n 2, 0, 0, 0), (35, .iload_n 3, 0, 0, 0), (36, .iconst 1, 0, 0, 0), (37, .iadd, 0, 0, 0), (38, .invokevirtual 61, 0, 0, 0), (41, .areturn, 0, 0, 0)]
/-- NeedMachine.mustBeNumber(LNeedMachine$Value;)I -/
def zm_c57 : List (Nat × zm_I) := [(0, .aload_n 0, 0, 0, 0), (1, .getfield 65, 3, 0, 0), (4, .ifCond .eq 14, 0, 0, 0), (7, .new 198, 99, 0, 0), (10, .dup, 0, 0, 0), (11, .ldc_w 269, 0, 0, 0), (14, .invokespecial 202, 0, 0, 0), (17, .athrow, 0, 0, 0), (18, .aload_n 0, 0, 0, 0), (19, .getfield 203, 3, 1, 0), (22, .ireturn, 0, 0, 0)]
/-- NeedMachine.reckon(LNeedMachine$Expression;LNeedMachine$Arguments;I)LNeedMachine$Value; -/
def zm_c58 : List (Nat × zm_I) := [(0, .aload_n 0, 0, 0, 0), (1, .aload_n 1, 0, 0, 0), (2, .getfield 163, 7, 2, 0), (5, .aload_n 2, 0, 0, 0), (6, .iload_n 3, 0, 0, 0), (7, .iconst 1, 0, 0, 0), (8, .iadd, 0, 0, 0), (9, .invokevirtual 61, 0, 0, 0), (12, .invokestatic 77, 0, 0, 0), (15, .istore 4, 0, 0, 0), (17, .aload_n 0, 0, 0, 0), (18, .aload_n 1, 0, 0, 0), (19, .getfield 171, 7, 3, 0), (22, .aload_n 2, 0, 0, 0), (23, .iload_n 3, 0, 0, 0), (24, .iconst 1, 0, 0, 0), (25, .iadd, 0, 0, 0), (26, .invokevirtual 61, 0, 0, 0), (29, .invokestatic 77, 0, 0, 0), (32, .istore 5, 0, 0, 0), (34, .aload_n 0, 0, 0, 0), (35, .getfield 19, 0, 1, 0), (38, .aload_n 1, 0, 0, 0), (39, .getfield 139, 7, 0, 0), (42, .iload 4, 0, 0, 0), (44, .iload 5, 0, 0, 0), (46, .invokestatic 227, 0, 0, 0), (49, .invokevirtual 148, 0, 0, 0), (52, .areturn, 0, 0, 0)]
/-- NeedMachine.reckonNumbers(CII)I -/
def zm_c59 : List (Nat × zm_I) := [(0, .iload_n 0, 0, 0, 0), (1, .lookupswitch 96 #[(37, 78), (42, 67), (43, 59), (45, 63), (47, 71), (60, 85)], 59, 0, 0), (60, .iload_n 1, 0, 0, 0), (61, .iload_n 2, 0, 0, 0), (62, .iadd, 0, 0, 0), (63, .ireturn, 0, 0, 0), (64, .iload_n 1, 0, 0, 0), (65, .iload_n 2, 0, 0, 0), (66, .isub, 0, 0, 0), (67, .ireturn, 0, 0, 0), (68, .iload_n 1, 0, 0, 0), (69, .iload_n 2, 0, 0, 0), (70, .imul, 0, 0, 0), (71, .ireturn, 0, 0, 0), (72, .iload_n 1, 0, 0, 0), (73, .iload_n 2, 0, 0, 0), (74, .invokestatic 231, 0, 0, 0), (77, .idiv, 0, 0, 0), (78, .ireturn, 0, 0, 0), (79, .iload_n 1, 0, 0, 0), (80, .iload_n 2, 0, 0, 0), (81, .invokestatic 231, 0, 0, 0), (84, .irem, 0, 0, 0), (85, .ireturn, 0, 0, 0), (86, .iload_n 1, 0, 0, 0), (87, .iload_n 2, 0, 0, 0), (88, .if_icmp .ge 7, 0, 0, 0), (91, .iconst 1, 0, 0, 0), (92, .goto 4, 0, 0, 0), (95, .iconst 0, 0, 0, 0), (96, .ireturn, 0, 0, 0), (97, .iload_n 1, 0, 0, 0), (98, .iload_n 2, 0, 0, 0), (99, .if_icmp .ne 7, 0, 0, 0), (102, .iconst 1, 0, 0, 0), (103, .goto 4, 0, 0, 0), (106, .iconst 0, 0, 0, 0), (107, .ireturn, 0, 0, 0)]
/-- NeedMachine.mustNotBeZero(I)I -/
def zm_c60 : List (Nat × zm_I) := [(0, .iload_n 0, 0, 0, 0), (1, .ifCond .ne 14, 0, 0, 0), (4, .new 277, 99, 0, 0), (7, .dup, 0, 0, 0), (8, .ldc_w 279, 0, 0, 0), (11, .invokespecial 281, 0, 0, 0), (14, .athrow, 0, 0, 0), (15, .iload_n 0, 0, 0, 0), (16, .ireturn, 0, 0, 0)]
/-- NeedMachineLaw.number(LNeedMachine;[J)I -/
def zm_c61 : List (Nat × zm_I) := [(0, .aload_n 1, 0, 0, 0), (1, .iconst 0, 0, 0, 0), (2, .aload_n 0, 0, 0, 0), (3, .invokevirtual 30, 0, 0, 0), (6, .i2l, 0, 0, 0), (7, .lastore, 0, 0, 0), (8, .goto 9, 0, 0, 0), (11, .astore_n 2, 0, 0, 0), (12, .iconst 1, 0, 0, 0), (13, .ireturn, 0, 0, 0), (14, .astore_n 2, 0, 0, 0), (15, .iconst 2, 0, 0, 0), (16, .ireturn, 0, 0, 0), (17, .iconst 0, 0, 0, 0), (18, .ireturn, 0, 0, 0)]
/-- NeedMachine.number()I -/
def zm_c62 : List (Nat × zm_I) := [(0, .aload_n 0, 0, 0, 0), (1, .getfield 48, 0, 3, 0), (4, .ifnonnull 13, 0, 0, 0), (7, .new 70, 99, 0, 0), (10, .dup, 0, 0, 0), (11, .ldc 72, 0, 0, 0), (13, .invokespecial 74, 0, 0, 0), (16, .athrow, 0, 0, 0), (17, .aload_n 0, 0, 0, 0), (18, .getfield 48, 0, 3, 0), (21, .invokestatic 77, 0, 0, 0), (24, .ireturn, 0, 0, 0)]
/-- NeedMachineLaw.head(LNeedMachine;[J)I -/
def zm_c63 : List (Nat × zm_I) := [(0, .aload_n 1, 0, 0, 0), (1, .iconst 0, 0, 0, 0), (2, .aload_n 0, 0, 0, 0), (3, .invokevirtual 33, 0, 0, 0), (6, .i2l, 0, 0, 0), (7, .lastore, 0, 0, 0), (8, .goto 15, 0, 0, 0), (11, .astore_n 2, 0, 0, 0), (12, .iconst 1, 0, 0, 0), (13, .ireturn, 0, 0, 0), (14, .astore_n 2, 0, 0, 0), (15, .iconst 2, 0, 0, 0), (16, .ireturn, 0, 0, 0), (17, .astore_n 2, 0, 0, 0), (18, .iconst 3, 0, 0, 0), (19, .ireturn, 0, 0, 0), (20, .astore_n 2, 0, 0, 0), (21, .iconst 4, 0, 0, 0), (22, .ireturn, 0, 0, 0), (23, .iconst 0, 0, 0, 0), (24, .ireturn, 0, 0, 0)]
/-- NeedMachine.head()I -/
def zm_c64 : List (Nat × zm_I) := [(0, .aload_n 0, 0, 0, 0), (1, .invokevirtual 81, 0, 0, 0), (4, .astore_n 1, 0, 0, 0), (5, .aload_n 0, 0, 0, 0), (6, .aload_n 1, 0, 0, 0), (7, .getfield 85, 3, 2, 0), (10, .iconst 0, 0, 0, 0), (11, .invokevirtual 89, 0, 0, 0), (14, .invokestatic 77, 0, 0, 0), (17, .istore_n 2, 0, 0, 0), (18, .aload_n 0, 0, 0, 0), (19, .aload_n 1, 0, 0, 0), (20, .putfield 48, 0, 3, 0), (23, .iload_n 2, 0, 0, 0), (24, .ireturn, 0, 0, 0)]
/-- NeedMachine.takeResultPair()LNeedMachine$Value; -/
def zm_c65 : List (Nat × zm_I) := [(0, .aload_n 0, 0, 0, 0), (1, .getfield 48, 0, 3, 0), (4, .astore_n 1, 0, 0, 0), (5, .aload_n 0, 0, 0, 0), (6, .aconst_null, 0, 0, 0), (7, .putfield 48, 0, 3, 0), (10, .aload_n 1, 0, 0, 0), (11, .ifnonnull 13, 0, 0, 0), (14, .new 70, 99, 0, 0), (17, .dup, 0, 0, 0), (18, .ldc 72, 0, 0, 0), (20, .invokespecial 74, 0, 0, 0), (23, .athrow, 0, 0, 0), (24, .aload_n 1, 0, 0, 0), (25, .invokestatic 124, 0, 0, 0), (28, .areturn, 0, 0, 0)]
/-- NeedMachineLaw.tail(LNeedMachine;[J)I -/
def zm_c66 : List (Nat × zm_I) := [(0, .aload_n 1, 0, 0, 0), (1, .iconst 0, 0, 0, 0), (2, .aload_n 0, 0, 0, 0), (3, .invokevirtual 36, 0, 0, 0), (6, .i2l, 0, 0, 0), (7, .lastore, 0, 0, 0), (8, .goto 15, 0, 0, 0), (11, .astore_n 2, 0, 0, 0), (12, .iconst 1, 0, 0, 0), (13, .ireturn, 0, 0, 0), (14, .astore_n 2, 0, 0, 0), (15, .iconst 2, 0, 0, 0), (16, .ireturn, 0, 0, 0), (17, .astore_n 2, 0, 0, 0), (18, .iconst 3, 0, 0, 0), (19, .ireturn, 0, 0, 0), (20, .astore_n 2, 0, 0, 0), (21, .iconst 4, 0, 0, 0), (22, .ireturn, 0, 0, 0), (23, .iconst 0, 0, 0, 0), (24, .ireturn, 0, 0, 0)]
/-- NeedMachine.tail()I -/
def zm_c67 : List (Nat × zm_I) := [(0, .aload_n 0, 0, 0, 0), (1, .invokevirtual 81, 0, 0, 0), (4, .astore_n 1, 0, 0, 0), (5, .aload_n 0, 0, 0, 0), (6, .aload_n 0, 0, 0, 0), (7, .aload_n 1, 0, 0, 0), (8, .getfield 93, 3, 3, 0), (11, .iconst 0, 0, 0, 0), (12, .invokevirtual 89, 0, 0, 0), (15, .putfield 48, 0, 3, 0), (18, .aload_n 0, 0, 0, 0), (19, .getfield 48, 0, 3, 0), (22, .getfield 65, 3, 0, 0), (25, .ireturn, 0, 0, 0)]
/-- NeedMachineLaw.remove(LNeedMachine;I)I -/
def zm_c68 : List (Nat × zm_I) := [(0, .aload_n 0, 0, 0, 0), (1, .iload_n 1, 0, 0, 0), (2, .invokevirtual 39, 0, 0, 0), (5, .goto 9, 0, 0, 0), (8, .astore_n 2, 0, 0, 0), (9, .iconst 1, 0, 0, 0), (10, .ireturn, 0, 0, 0), (11, .astore_n 2, 0, 0, 0), (12, .iconst 2, 0, 0, 0), (13, .ireturn, 0, 0, 0), (14, .iconst 0, 0, 0, 0), (15, .ireturn, 0, 0, 0)]
/-- NeedMachine.remove(I)V -/
def zm_c69 : List (Nat × zm_I) := [(0, .iload_n 1, 0, 0, 0), (1, .ifCond .lt 9, 0, 0, 0), (4, .iload_n 1, 0, 0, 0), (5, .bipush 6, 0, 0, 0), (7, .if_icmp .lt 13, 0, 0, 0), (10, .new 96, 99, 0, 0), (13, .dup, 0, 0, 0), (14, .ldc 98, 0, 0, 0), (16, .invokespecial 100, 0, 0, 0), (19, .athrow, 0, 0, 0), (20, .aload_n 0, 0, 0, 0), (21, .iload_n 1, 0, 0, 0), (22, .invokevirtual 101, 0, 0, 0), (25, .pop, 0, 0, 0), (26, .aload_n 0, 0, 0, 0), (27, .getfield 25, 0, 2, 0), (30, .iload_n 1, 0, 0, 0), (31, .aconst_null, 0, 0, 0), (32, .aastore, 0, 0, 0), (33, .return_, 0, 0, 0)]
/-- NeedMachineModel.<init>()V -/
def zm_c70 : List (Nat × zm_I) := [(0, .aload_n 0, 0, 0, 0), (1, .invokespecial 1, 0, 0, 0), (4, .aload_n 0, 0, 0, 0), (5, .bipush 40, 0, 0, 0), (7, .newarray .int, 0, 0, 0), (9, .putfield 7, 5, 0, 0), (12, .aload_n 0, 0, 0, 0), (13, .sipush 21200, 0, 0, 0), (16, .newarray .int, 0, 0, 0), (18, .putfield 13, 5, 1, 0), (21, .aload_n 0, 0, 0, 0), (22, .sipush 240, 0, 0, 0), (25, .newarray .int, 0, 0, 0), (27, .putfield 16, 5, 2, 0), (30, .aload_n 0, 0, 0, 0), (31, .bipush 6, 0, 0, 0), (33, .newarray .int, 0, 0, 0), (35, .putfield 19, 5, 3, 0), (38, .aload_n 0, 0, 0, 0), (39, .bipush 24, 0, 0, 0), (41, .newarray .int, 0, 0, 0), (43, .putfield 22, 5, 4, 0), (46, .aload_n 0, 0, 0, 0), (47, .bipush 6, 0, 0, 0), (49, .newarray .int, 0, 0, 0), (51, .putfield 25, 5, 5, 0), (54, .aload_n 0, 0, 0, 0), (55, .bipush 16, 0, 0, 0), (57, .newarray .int, 0, 0, 0), (59, .putfield 28, 5, 6, 0), (62, .aload_n 0, 0, 0, 0), (63, .bipush 6, 0, 0, 0), (65, .newarray .boolean, 3, 0, 0), (67, .putfield 31, 5, 7, 0), (70, .aload_n 0, 0, 0, 0), (71, .iconst (-1), 0, 0, 0), (72, .putfield 35, 5, 9, 0), (75, .aload_n 0, 0, 0, 0), (76, .sipush 16400, 0, 0, 0), (79, .newarray .int, 0, 0, 0), (81, .putfield 39, 5, 13, 0), (84, .aload_n 0, 0, 0, 0), (85, .sipush 16400, 0, 0, 0), (88, .newarray .int, 0, 0, 0), (90, .putfield 42, 5, 14, 0), (93, .aload_n 0, 0, 0, 0), (94, .sipush 16400, 0, 0, 0), (97, .newarray .int, 0, 0, 0), (99, .putfield 45, 5, 15, 0), (102, .aload_n 0, 0, 0, 0), (103, .sipush 16400, 0, 0, 0), (106, .newarray .int, 0, 0, 0), (108, .putfield 48, 5, 16, 0), (111, .aload_n 0, 0, 0, 0), (112, .sipush 16400, 0, 0, 0), (115, .newarray .int, 0, 0, 0), (117, .putfield 51, 5, 17, 0), (120, .aload_n 0, 0, 0, 0), (121, .sipush 16400, 0, 0, 0), (124, .newarray .int, 0, 0, 0), (126, .putfield 54, 5, 18, 0), (129, .aload_n 0, 0, 0, 0), (130, .sipush 1700, 0, 0, 0), (133, .newarray .int, 0, 0, 0), (135, .putfield 57, 5, 19, 0), (138, .aload_n 0, 0, 0, 0), (139, .sipush 1700, 0, 0, 0), (142, .newarray .int, 0, 0, 0), (144, .putfield 60, 5, 20, 0), (147, .aload_n 0, 0, 0, 0), (148, .sipush 16400, 0, 0, 0), (151, .newarray .int, 0, 0, 0), (153, .putfield 63, 5, 21, 0), (156, .aload_n 0, 0, 0, 0), (157, .sipush 16400, 0, 0, 0), (160, .newarray .int, 0, 0, 0), (162, .putfield 66, 5, 22, 0), (165, .aload_n 0, 0, 0, 0), (166, .bipush 64, 0, 0, 0), (168, .newarray .int, 0, 0, 0), (170, .putfield 69, 5, 26, 0), (173, .aload_n 0, 0, 0, 0), (174, .bipush 64, 0, 0, 0), (176, .newarray .int, 0, 0, 0), (178, .putfield 72, 5, 27, 0), (181, .aload_n 0, 0, 0, 0), (182, .bipush 64, 0, 0, 0), (184, .newarray .int, 0, 0, 0), (186, .putfield 75, 5, 28, 0), (189, .aload_n 0, 0, 0, 0), (190, .bipush 64, 0, 0, 0), (192, .newarray .int, 0, 0, 0), (194, .putfield 78, 5, 29, 0), (197, .aload_n 0, 0, 0, 0), (198, .bipush 64, 0, 0, 0), (200, .newarray .int, 0, 0, 0), (202, .putfield 81, 5, 30, 0), (205, .return_, 0, 0, 0)]
/-- NeedMachineModel.thrown()I -/
def zm_c71 : List (Nat × zm_I) := [(0, .aload_n 0, 0, 0, 0), (1, .getfield 84, 5, 12, 0), (4, .ireturn, 0, 0, 0)]
/-- NeedMachineModel.type(J)I -/
def zm_c72 : List (Nat × zm_I) := [(0, .iconst 0, 0, 0, 0), (1, .istore_n 3, 0, 0, 0), (2, .iconst 1, 0, 0, 0), (3, .istore 4, 0, 0, 0), (5, .bipush 56, 0, 0, 0), (7, .istore 5, 0, 0, 0), (9, .iload 5, 0, 0, 0), (11, .ifCond .lt 48, 0, 0, 0), (14, .lload_n 1, 0, 0, 0), (15, .iload 5, 0, 0, 0), (17, .lushr, 0, 0, 0), (18, .l2i, 0, 0, 0), (19, .sipush 255, 0, 0, 0), (22, .iand, 0, 0, 0), (23, .istore 6, 0, 0, 0), (25, .iload 6, 0, 0, 0), (27, .ifCond .eq 6, 0, 0, 0), (30, .iinc 3 1, 0, 0, 0), (33, .iload 6, 0, 0, 0), (35, .ifCond .eq 18, 0, 0, 0), (38, .iload 6, 0, 0, 0), (40, .bipush 33, 0, 0, 0), (42, .bipush 126, 0, 0, 0), (44, .invokestatic 87, 0, 0, 0), (47, .ifCond .ne 6, 0, 0, 0), (50, .iconst 0, 0, 0, 0), (51, .istore 4, 0, 0, 0), (53, .iinc 5 (-8), 0, 0, 0), (56, .goto (-47), 0, 0, 0), (59, .aload_n 0, 0, 0, 0), (60, .iload 4, 0, 0, 0), (62, .invokevirtual 91, 0, 0, 0), (65, .ifCond .eq 5, 0, 0, 0), (68, .iconst 0, 0, 0, 0), (69, .ireturn, 0, 0, 0), (70, .aload_n 0, 0, 0, 0), (71, .getfield 95, 5, 8, 0), (74, .iload_n 3, 0, 0, 0), (75, .iadd, 0, 0, 0), (76, .bipush 40, 0, 0, 0), (78, .if_icmp .le 9, 0, 0, 0), (81, .aload_n 0, 0, 0, 0), (82, .iconst 2, 0, 0, 0), (83, .invokevirtual 98, 0, 0, 0), (86, .ireturn, 0, 0, 0), (87, .bipush 56, 0, 0, 0), (89, .istore 5, 0, 0, 0), (91, .iload 5, 0, 0, 0), (93, .ifCond .lt 49, 0, 0, 0), (96, .lload_n 1, 0, 0, 0), (97, .iload 5, 0, 0, 0), (99, .lushr, 0, 0, 0), (100, .l2i, 0, 0, 0), (101, .sipush 255, 0, 0, 0), (104, .iand, 0, 0, 0), (105, .istore 6, 0, 0, 0), (107, .iload 6, 0, 0, 0), (109, .ifCond .ne 6, 0, 0, 0), (112, .goto 24, 0, 0, 0), (115, .aload_n 0, 0, 0, 0), (116, .getfield 7, 5, 0, 0), (119, .aload_n 0, 0, 0, 0), (120, .getfield 95, 5, 8, 0), (123, .iload 6, 0, 0, 0), (125, .iastore, 0, 0, 0), (126, .aload_n 0, 0, 0, 0), (127, .dup, 0, 0, 0), (128, .getfield 95, 5, 8, 0), (131, .iconst 1, 0, 0, 0), (132, .iadd, 0, 0, 0), (133, .putfield 95, 5, 8, 0), (136, .iinc 5 (-8), 0, 0, 0), (139, .goto (-48), 0, 0, 0), (142, .aload_n 0, 0, 0, 0), (143, .getfield 95, 5, 8, 0), (146, .ireturn, 0, 0, 0)]
/-- NeedMachineModel.between(III)Z -/
def zm_c73 : List (Nat × zm_I) := [(0, .iload_n 0, 0, 0, 0), (1, .iload_n 1, 0, 0, 0), (2, .if_icmp .lt 12, 0, 0, 0), (5, .iload_n 0, 0, 0, 0), (6, .iload_n 2, 0, 0, 0), (7, .if_icmp .gt 7, 0, 0, 0), (10, .iconst 1, 0, 0, 0), (11, .goto 4, 0, 0, 0), (14, .iconst 0, 0, 0, 0), (15, .ireturn, 0, 0, 0)]
/-- NeedMachineModel.bad(Z)Z -/
def zm_c74 : List (Nat × zm_I) := [(0, .aload_n 0, 0, 0, 0), (1, .iload_n 1, 0, 0, 0), (2, .ifCond .eq 7, 0, 0, 0), (5, .iconst 0, 0, 0, 0), (6, .goto 4, 0, 0, 0), (9, .iconst 1, 0, 0, 0), (10, .putfield 84, 5, 12, 0), (13, .iload_n 1, 0, 0, 0), (14, .ifCond .ne 7, 0, 0, 0), (17, .iconst 1, 0, 0, 0), (18, .goto 4, 0, 0, 0), (21, .iconst 0, 0, 0, 0), (22, .ireturn, 0, 0, 0)]
/-- NeedMachineModel.fail(I)I -/
def zm_c75 : List (Nat × zm_I) := [(0, .aload_n 0, 0, 0, 0), (1, .iload_n 1, 0, 0, 0), (2, .putfield 84, 5, 12, 0), (5, .iconst 0, 0, 0, 0), (6, .ireturn, 0, 0, 0)]
/-- NeedMachineModel.define()I -/
def zm_c76 : List (Nat × zm_I) := [(0, .iconst 4, 0, 0, 0), (1, .newarray .int, 0, 0, 0), (3, .dup, 0, 0, 0), (4, .iconst 0, 0, 0, 0), (5, .iconst 0, 0, 0, 0), (6, .iastore, 0, 0, 0), (7, .dup, 0, 0, 0), (8, .iconst 1, 0, 0, 0), (9, .iconst 0, 0, 0, 0), (10, .iastore, 0, 0, 0), (11, .dup, 0, 0, 0), (12, .iconst 2, 0, 0, 0), (13, .iconst 0, 0, 0, 0), (14, .iastore, 0, 0, 0), (15, .dup, 0, 0, 0), (16, .iconst 3, 0, 0, 0), (17, .iconst 0, 0, 0, 0), (18, .iastore, 0, 0, 0), (19, .astore_n 1, 0, 0, 0), (20, .aload_n 0, 0, 0, 0), (21, .iconst 0, 0, 0, 0), (22, .putfield 102, 5, 10, 0), (25, .aload_n 0, 0, 0, 0), (26, .aload_n 1, 0, 0, 0), (27, .invokevirtual 115, 0, 0, 0), (30, .istore_n 2, 0, 0, 0), (31, .aload_n 0, 0, 0, 0), (32, .getfield 102, 5, 10, 0), (35, .istore_n 3, 0, 0, 0), (36, .iload_n 2, 0, 0, 0), (37, .ifCond .lt 15, 0, 0, 0), (40, .aload_n 0, 0, 0, 0), (41, .iload_n 2, 0, 0, 0), (42, .invokevirtual 119, 0, 0, 0), (45, .ifCond .eq 7, 0, 0, 0), (48, .iconst 1, 0, 0, 0), (49, .goto 4, 0, 0, 0), (52, .iconst 0, 0, 0, 0), (53, .istore 4, 0, 0, 0), (55, .iload 4, 0, 0, 0), (57, .ifCond .ne 11, 0, 0, 0), (60, .aload_n 0, 0, 0, 0), (61, .aload_n 0, 0, 0, 0), (62, .getfield 102, 5, 10, 0), (65, .putfield 35, 5, 9, 0), (68, .aload_n 0, 0, 0, 0), (69, .getfield 95, 5, 8, 0), (72, .istore 5, 0, 0, 0), (74, .iload 4, 0, 0, 0), (76, .ifCond .eq 75, 0, 0, 0), (79, .aload_n 0, 0, 0, 0), (80, .getfield 7, 5, 0, 0), (83, .iconst 0, 0, 0, 0), (84, .iaload, 0, 0, 0), (85, .bipush 65, 0, 0, 0), (87, .isub, 0, 0, 0), (88, .istore 6, 0, 0, 0), (90, .aload_n 0, 0, 0, 0), (91, .getfield 19, 5, 3, 0), (94, .iload 6, 0, 0, 0), (96, .aload_n 0, 0, 0, 0), (97, .iload_n 3, 0, 0, 0), (98, .invokevirtual 123, 0, 0, 0), (101, .iastore, 0, 0, 0), (102, .aload_n 0, 0, 0, 0), (103, .getfield 25, 5, 5, 0), (106, .iload 6, 0, 0, 0), (108, .iload_n 3, 0, 0, 0), (109, .iconst 2, 0, 0, 0), (110, .isub, 0, 0, 0), (111, .iastore, 0, 0, 0), (112, .iconst 0, 0, 0, 0), (113, .istore 7, 0, 0, 0), (115, .iload 7, 0, 0, 0), (117, .iconst 4, 0, 0, 0), (118, .if_icmp .ge 25, 0, 0, 0), (121, .aload_n 0, 0, 0, 0), (122, .getfield 22, 5, 4, 0), (125, .iload 6, 0, 0, 0), (127, .iconst 4, 0, 0, 0), (128, .imul, 0, 0, 0), (129, .iload 7, 0, 0, 0), (131, .iadd, 0, 0, 0), (132, .aload_n 1, 0, 0, 0), (133, .iload 7, 0, 0, 0), (135, .iaload, 0, 0, 0), (136, .iastore, 0, 0, 0), (137, .iinc 7 1, 0, 0, 0), (140, .goto (-25), 0, 0, 0), (143, .aload_n 0, 0, 0, 0), (144, .getfield 31, 5, 7, 0), (147, .iload 6, 0, 0, 0), (149, .iconst 1, 0, 0, 0), (150, .bastore, 0, 0, 0), (151, .aload_n 0, 0, 0, 0), (152, .iconst 0, 0, 0, 0), (153, .putfield 95, 5, 8, 0), (156, .aload_n 0, 0, 0, 0), (157, .iload 4, 0, 0, 0), (159, .invokevirtual 91, 0, 0, 0), (162, .ifCond .ne 8, 0, 0, 0), (165, .iload 5, 0, 0, 0), (167, .ifCond .ne 7, 0, 0, 0), (170, .iconst 0, 0, 0, 0), (171, .goto 6, 0, 0, 0), (174, .iload_n 3, 0, 0, 0), (175, .iconst 2, 0, 0, 0), (176, .isub, 0, 0, 0), (177, .ireturn, 0, 0, 0)]
/-- NeedMachineModel.heading([I)I -/
def zm_c77 : List (Nat × zm_I) := [(0, .iconst 0, 0, 0, 0), (1, .istore_n 2, 0, 0, 0), (2, .iconst 0, 0, 0, 0), (3, .istore_n 3, 0, 0, 0), (4, .aload_n 0, 0, 0, 0), (5, .invokevirtual 105, 0, 0, 0), (8, .bipush 65, 0, 0, 0), (10, .bipush 70, 0, 0, 0), (12, .invokestatic 87, 0, 0, 0), (15, .ifCond .ne 5, 0, 0, 0), (18, .iconst (-1), 0, 0, 0), (19, .ireturn, 0, 0, 0), (20, .aload_n 0, 0, 0, 0), (21, .dup, 0, 0, 0), (22, .getfield 102, 5, 10, 0), (25, .iconst 1, 0, 0, 0), (26, .iadd, 0, 0, 0), (27, .putfield 102, 5, 10, 0), (30, .iload_n 3, 0, 0, 0), (31, .iconst 4, 0, 0, 0), (32, .if_icmp .ge 66, 0, 0, 0), (35, .aload_n 0, 0, 0, 0), (36, .invokevirtual 105, 0, 0, 0), (39, .bipush 97, 0, 0, 0), (41, .bipush 102, 0, 0, 0), (43, .invokestatic 87, 0, 0, 0), (46, .ifCond .eq 52, 0, 0, 0), (49, .iload_n 2, 0, 0, 0), (50, .aload_n 0, 0, 0, 0), (51, .invokevirtual 105, 0, 0, 0), (54, .bipush 97, 0, 0, 0), (56, .isub, 0, 0, 0), (57, .ishr, 0, 0, 0), (58, .iconst 1, 0, 0, 0), (59, .iand, 0, 0, 0), (60, .ifCond .ne 38, 0, 0, 0), (63, .iload_n 2, 0, 0, 0), (64, .iconst 1, 0, 0, 0), (65, .aload_n 0, 0, 0, 0), (66, .invokevirtual 105, 0, 0, 0), (69, .bipush 97, 0, 0, 0), (71, .isub, 0, 0, 0), (72, .ishl, 0, 0, 0), (73, .ior, 0, 0, 0), (74, .istore_n 2, 0, 0, 0), (75, .aload_n 1, 0, 0, 0), (76, .iload_n 3, 0, 0, 0), (77, .aload_n 0, 0, 0, 0), (78, .invokevirtual 105, 0, 0, 0), (81, .iastore, 0, 0, 0), (82, .iinc 3 1, 0, 0, 0), (85, .aload_n 0, 0, 0, 0), (86, .dup, 0, 0, 0), (87, .getfield 102, 5, 10, 0), (90, .iconst 1, 0, 0, 0), (91, .iadd, 0, 0, 0), (92, .putfield 102, 5, 10, 0), (95, .goto (-65), 0, 0, 0), (98, .aload_n 0, 0, 0, 0), (99, .invokevirtual 105, 0, 0, 0), (102, .bipush 61, 0, 0, 0), (104, .if_icmp .eq 5, 0, 0, 0), (107, .iconst (-1), 0, 0, 0), (108, .ireturn, 0, 0, 0), (109, .aload_n 0, 0, 0, 0), (110, .dup, 0, 0, 0), (111, .getfield 102, 5, 10, 0), (114, .iconst 1, 0, 0, 0), (115, .iadd, 0, 0, 0), (116, .putfield 102, 5, 10, 0), (119, .iload_n 2, 0, 0, 0), (120, .ireturn, 0, 0, 0)]
/-- NeedMachineModel.look()I -/
def zm_c78 : List (Nat × zm_I) := [(0, .aload_n 0, 0, 0, 0), (1, .getfield 102, 5, 10, 0), (4, .aload_n 0, 0, 0, 0), (5, .getfield 95, 5, 8, 0), (8, .if_icmp .ge 15, 0, 0, 0), (11, .aload_n 0, 0, 0, 0), (12, .getfield 7, 5, 0, 0), (15, .aload_n 0, 0, 0, 0), (16, .getfield 102, 5, 10, 0), (19, .iaload, 0, 0, 0), (20, .goto 4, 0, 0, 0), (23, .iconst 0, 0, 0, 0), (24, .ireturn, 0, 0, 0)]
/-- NeedMachineModel.read(I)Z -/
def zm_c79 : List (Nat × zm_I) := [(0, .iconst 1, 0, 0, 0), (1, .istore_n 2, 0, 0, 0), (2, .aload_n 0, 0, 0, 0), (3, .getfield 28, 5, 6, 0), (6, .iconst 1, 0, 0, 0), (7, .iconst 1, 0, 0, 0), (8, .iastore, 0, 0, 0), (9, .iload_n 2, 0, 0, 0), (10, .ifCond .le 112, 0, 0, 0), (13, .aload_n 0, 0, 0, 0), (14, .invokevirtual 105, 0, 0, 0), (17, .istore_n 3, 0, 0, 0), (18, .iload_n 3, 0, 0, 0), (19, .invokestatic 109, 0, 0, 0), (22, .istore 4, 0, 0, 0), (24, .iload 4, 0, 0, 0), (26, .ifCond .lt 36, 0, 0, 0), (29, .iload 4, 0, 0, 0), (31, .ifCond .le 9, 0, 0, 0), (34, .iload_n 2, 0, 0, 0), (35, .bipush 12, 0, 0, 0), (37, .if_icmp .eq 25, 0, 0, 0), (40, .iload_n 3, 0, 0, 0), (41, .bipush 97, 0, 0, 0), (43, .bipush 102, 0, 0, 0), (45, .invokestatic 87, 0, 0, 0), (48, .ifCond .eq 16, 0, 0, 0), (51, .iload_n 1, 0, 0, 0), (52, .iload_n 3, 0, 0, 0), (53, .bipush 97, 0, 0, 0), (55, .isub, 0, 0, 0), (56, .ishr, 0, 0, 0), (57, .iconst 1, 0, 0, 0), (58, .iand, 0, 0, 0), (59, .ifCond .ne 5, 0, 0, 0), (62, .iconst 0, 0, 0, 0), (63, .ireturn, 0, 0, 0), (64, .aload_n 0, 0, 0, 0), (65, .dup, 0, 0, 0), (66, .getfield 102, 5, 10, 0), (69, .iconst 1, 0, 0, 0), (70, .iadd, 0, 0, 0), (71, .putfield 102, 5, 10, 0), (74, .aload_n 0, 0, 0, 0), (75, .getfield 28, 5, 6, 0), (78, .iload_n 2, 0, 0, 0), (79, .dup2, 0, 0, 0), (80, .iaload, 0, 0, 0), (81, .iconst 1, 0, 0, 0), (82, .isub, 0, 0, 0), (83, .iastore, 0, 0, 0), (84, .iload 4, 0, 0, 0), (86, .ifCond .le 14, 0, 0, 0), (89, .iinc 2 1, 0, 0, 0), (92, .aload_n 0, 0, 0, 0), (93, .getfield 28, 5, 6, 0), (96, .iload_n 2, 0, 0, 0), (97, .iload 4, 0, 0, 0), (99, .iastore, 0, 0, 0), (100, .iload_n 2, 0, 0, 0), (101, .ifCond .le 18, 0, 0, 0), (104, .aload_n 0, 0, 0, 0), (105, .getfield 28, 5, 6, 0), (108, .iload_n 2, 0, 0, 0), (109, .iaload, 0, 0, 0), (110, .ifCond .ne 9, 0, 0, 0), (113, .iinc 2 (-1), 0, 0, 0), (116, .goto (-16), 0, 0, 0), (119, .goto (-110), 0, 0, 0), (122, .aload_n 0, 0, 0, 0), (123, .getfield 102, 5, 10, 0), (126, .aload_n 0, 0, 0, 0), (127, .getfield 95, 5, 8, 0), (130, .if_icmp .ne 7, 0, 0, 0), (133, .iconst 1, 0, 0, 0), (134, .goto 4, 0, 0, 0), (137, .iconst 0, 0, 0, 0), (138, .ireturn, 0, 0, 0)]
/-- NeedMachineModel.parts(I)I -/
def zm_c80 : List (Nat × zm_I) := [(0, .iload_n 0, 0, 0, 0), (1, .bipush 48, 0, 0, 0), (3, .bipush 57, 0, 0, 0), (5, .invokestatic 87, 0, 0, 0), (8, .ifCond .ne 31, 0, 0, 0), (11, .iload_n 0, 0, 0, 0), (12, .bipush 97, 0, 0, 0), (14, .bipush 102, 0, 0, 0), (16, .invokestatic 87, 0, 0, 0), (19, .ifCond .ne 20, 0, 0, 0), (22, .iload_n 0, 0, 0, 0), (23, .bipush 65, 0, 0, 0), (25, .bipush 70, 0, 0, 0), (27, .invokestatic 87, 0, 0, 0), (30, .ifCond .ne 9, 0, 0, 0), (33, .iload_n 0, 0, 0, 0), (34, .bipush 110, 0, 0, 0), (36, .if_icmp .ne 5, 0, 0, 0), (39, .iconst 0, 0, 0, 0), (40, .ireturn, 0, 0, 0), (41, .iload_n 0, 0, 0, 0), (42, .bipush 104, 0, 0, 0), (44, .if_icmp .eq 15, 0, 0, 0), (47, .iload_n 0, 0, 0, 0), (48, .bipush 116, 0, 0, 0), (50, .if_icmp .eq 9, 0, 0, 0), (53, .iload_n 0, 0, 0, 0), (54, .bipush 122, 0, 0, 0), (56, .if_icmp .ne 5, 0, 0, 0), (59, .iconst 1, 0, 0, 0), (60, .ireturn, 0, 0, 0), (61, .iload_n 0, 0, 0, 0), (62, .bipush 63, 0, 0, 0), (64, .if_icmp .ne 5, 0, 0, 0), (67, .iconst 3, 0, 0, 0), (68, .ireturn, 0, 0, 0), (69, .iload_n 0, 0, 0, 0), (70, .bipush 46, 0, 0, 0), (72, .if_icmp .eq 51, 0, 0, 0), (75, .iload_n 0, 0, 0, 0), (76, .bipush 43, 0, 0, 0), (78, .if_icmp .eq 45, 0, 0, 0), (81, .iload_n 0, 0, 0, 0), (82, .bipush 45, 0, 0, 0), (84, .if_icmp .eq 39, 0, 0, 0), (87, .iload_n 0, 0, 0, 0), (88, .bipush 42, 0, 0, 0), (90, .if_icmp .eq 33, 0, 0, 0), (93, .iload_n 0, 0, 0, 0), (94, .bipush 47, 0, 0, 0), (96, .if_icmp .eq 27, 0, 0, 0), (99, .iload_n 0, 0, 0, 0), (100, .bipush 37, 0, 0, 0), (102, .if_icmp .eq 21, 0, 0, 0), (105, .iload_n 0, 0, 0, 0), (106, .bipush 60, 0, 0, 0), (108, .if_icmp .eq 15, 0, 0, 0), (111, .iload_n 0, 0, 0, 0), (112, .bipush 61, 0, 0, 0), (114, .if_icmp .eq 9, 0, 0, 0), (117, .iload_n 0, 0, 0, 0), (118, .bipush 58, 0, 0, 0), (120, .if_icmp .ne 7, 0, 0, 0), (123, .iconst 2, 0, 0, 0), (124, .goto 4, 0, 0, 0), (127, .iconst (-1), 0, 0, 0), (128, .ireturn, 0, 0, 0)]
/-- NeedMachineModel.store(I)I -/
def zm_c81 : List (Nat × zm_I) := [(0, .aload_n 0, 0, 0, 0), (1, .getfield 112, 5, 11, 0), (4, .istore_n 2, 0, 0, 0), (5, .iload_n 1, 0, 0, 0), (6, .istore_n 3, 0, 0, 0), (7, .iload_n 3, 0, 0, 0), (8, .aload_n 0, 0, 0, 0), (9, .getfield 95, 5, 8, 0), (12, .if_icmp .ge 34, 0, 0, 0), (15, .aload_n 0, 0, 0, 0), (16, .getfield 13, 5, 1, 0), (19, .aload_n 0, 0, 0, 0), (20, .getfield 112, 5, 11, 0), (23, .aload_n 0, 0, 0, 0), (24, .getfield 7, 5, 0, 0), (27, .iload_n 3, 0, 0, 0), (28, .iaload, 0, 0, 0), (29, .iastore, 0, 0, 0), (30, .aload_n 0, 0, 0, 0), (31, .dup, 0, 0, 0), (32, .getfield 112, 5, 11, 0), (35, .iconst 1, 0, 0, 0), (36, .iadd, 0, 0, 0), (37, .putfield 112, 5, 11, 0), (40, .iinc 3 1, 0, 0, 0), (43, .goto (-36), 0, 0, 0), (46, .iload_n 2, 0, 0, 0), (47, .ireturn, 0, 0, 0)]
/-- NeedMachineModel.ask()I -/
def zm_c82 : List (Nat × zm_I) := [(0, .aload_n 0, 0, 0, 0), (1, .iconst 0, 0, 0, 0), (2, .putfield 102, 5, 10, 0), (5, .aload_n 0, 0, 0, 0), (6, .iconst 0, 0, 0, 0), (7, .invokevirtual 119, 0, 0, 0), (10, .istore_n 1, 0, 0, 0), (11, .iload_n 1, 0, 0, 0), (12, .ifCond .ne 11, 0, 0, 0), (15, .aload_n 0, 0, 0, 0), (16, .aload_n 0, 0, 0, 0), (17, .getfield 102, 5, 10, 0), (20, .putfield 35, 5, 9, 0), (23, .aload_n 0, 0, 0, 0), (24, .iload_n 1, 0, 0, 0), (25, .invokevirtual 91, 0, 0, 0), (28, .ifCond .eq 10, 0, 0, 0), (31, .aload_n 0, 0, 0, 0), (32, .iconst 0, 0, 0, 0), (33, .putfield 95, 5, 8, 0), (36, .iconst 0, 0, 0, 0), (37, .ireturn, 0, 0, 0), (38, .aload_n 0, 0, 0, 0), (39, .invokevirtual 229, 0, 0, 0), (42, .aload_n 0, 0, 0, 0), (43, .iconst 0, 0, 0, 0), (44, .invokevirtual 123, 0, 0, 0), (47, .istore_n 2, 0, 0, 0), (48, .aload_n 0, 0, 0, 0), (49, .iconst 0, 0, 0, 0), (50, .putfield 95, 5, 8, 0), (53, .aload_n 0, 0, 0, 0), (54, .iconst 0, 0, 0, 0), (55, .putfield 175, 5, 33, 0), (58, .aload_n 0, 0, 0, 0), (59, .iconst 0, 0, 0, 0), (60, .putfield 141, 5, 32, 0), (63, .aload_n 0, 0, 0, 0), (64, .iload_n 2, 0, 0, 0), (65, .iconst 0, 0, 0, 0), (66, .invokevirtual 232, 0, 0, 0), (69, .aload_n 0, 0, 0, 0), (70, .invokevirtual 235, 0, 0, 0), (73, .ireturn, 0, 0, 0)]
/-- NeedMachineModel.sweep()V -/
def zm_c83 : List (Nat × zm_I) := [(0, .iconst 0, 0, 0, 0), (1, .istore_n 1, 0, 0, 0), (2, .iconst 0, 0, 0, 0), (3, .istore_n 2, 0, 0, 0), (4, .iload_n 2, 0, 0, 0), (5, .bipush 6, 0, 0, 0), (7, .if_icmp .ge 79, 0, 0, 0), (10, .aload_n 0, 0, 0, 0), (11, .getfield 31, 5, 7, 0), (14, .iload_n 2, 0, 0, 0), (15, .baload, 0, 0, 0), (16, .ifCond .ne 6, 0, 0, 0), (19, .goto 61, 0, 0, 0), (22, .aload_n 0, 0, 0, 0), (23, .aload_n 0, 0, 0, 0), (24, .getfield 19, 5, 3, 0), (27, .iload_n 2, 0, 0, 0), (28, .iaload, 0, 0, 0), (29, .invokevirtual 126, 0, 0, 0), (32, .istore_n 3, 0, 0, 0), (33, .iload_n 1, 0, 0, 0), (34, .istore 4, 0, 0, 0), (36, .aload_n 0, 0, 0, 0), (37, .getfield 19, 5, 3, 0), (40, .iload_n 2, 0, 0, 0), (41, .iaload, 0, 0, 0), (42, .istore 5, 0, 0, 0), (44, .iload 5, 0, 0, 0), (46, .iload_n 3, 0, 0, 0), (47, .if_icmp .ge 25, 0, 0, 0), (50, .aload_n 0, 0, 0, 0), (51, .getfield 16, 5, 2, 0), (54, .iload_n 1, 0, 0, 0), (55, .aload_n 0, 0, 0, 0), (56, .getfield 13, 5, 1, 0), (59, .iload 5, 0, 0, 0), (61, .iaload, 0, 0, 0), (62, .iastore, 0, 0, 0), (63, .iinc 1 1, 0, 0, 0), (66, .iinc 5 1, 0, 0, 0), (69, .goto (-25), 0, 0, 0), (72, .aload_n 0, 0, 0, 0), (73, .getfield 19, 5, 3, 0), (76, .iload_n 2, 0, 0, 0), (77, .iload 4, 0, 0, 0), (79, .iastore, 0, 0, 0), (80, .iinc 2 1, 0, 0, 0), (83, .goto (-79), 0, 0, 0), (86, .iconst 0, 0, 0, 0), (87, .istore_n 2, 0, 0, 0), (88, .iload_n 2, 0, 0, 0), (89, .iload_n 1, 0, 0, 0), (90, .if_icmp .ge 21, 0, 0, 0), (93, .aload_n 0, 0, 0, 0), (94, .getfield 13, 5, 1, 0), (97, .iload_n 2, 0, 0, 0), (98, .aload_n 0, 0, 0, 0), (99, .getfield 16, 5, 2, 0), (102, .iload_n 2, 0, 0, 0), (103, .iaload, 0, 0, 0), (104, .iastore, 0, 0, 0), (105, .iinc 2 1, 0, 0, 0), (108, .goto (-20), 0, 0, 0), (111, .aload_n 0, 0, 0, 0), (112, .iload_n 1, 0, 0, 0), (113, .putfield 112, 5, 11, 0), (116, .aload_n 0, 0, 0, 0), (117, .aload_n 0, 0, 0, 0), (118, .aload_n 0, 0, 0, 0), (119, .iconst 0, 0, 0, 0), (120, .dup_x1, 0, 0, 0), (121, .putfield 129, 5, 25, 0), (124, .dup_x1, 0, 0, 0), (125, .putfield 132, 5, 24, 0), (128, .putfield 135, 5, 23, 0), (131, .return_, 0, 0, 0)]
/-- NeedMachineModel.skip(I)I -/
def zm_c84 : List (Nat × zm_I) := [(0, .iload_n 1, 0, 0, 0), (1, .istore_n 2, 0, 0, 0), (2, .iconst 1, 0, 0, 0), (3, .istore_n 3, 0, 0, 0), (4, .iload_n 3, 0, 0, 0), (5, .ifCond .le 23, 0, 0, 0), (8, .iload_n 3, 0, 0, 0), (9, .aload_n 0, 0, 0, 0), (10, .getfield 13, 5, 1, 0), (13, .iload_n 2, 0, 0, 0), (14, .iaload, 0, 0, 0), (15, .invokestatic 109, 0, 0, 0), (18, .iconst 1, 0, 0, 0), (19, .isub, 0, 0, 0), (20, .iadd, 0, 0, 0), (21, .istore_n 3, 0, 0, 0), (22, .iinc 2 1, 0, 0, 0), (25, .goto (-21), 0, 0, 0), (28, .iload_n 2, 0, 0, 0), (29, .ireturn, 0, 0, 0)]
/-- NeedMachineModel.workOut(II)V -/
def zm_c85 : List (Nat × zm_I) := [(0, .aload_n 0, 0, 0, 0), (1, .iconst 0, 0, 0, 0), (2, .putfield 138, 5, 31, 0), (5, .aload_n 0, 0, 0, 0), (6, .iload_n 1, 0, 0, 0), (7, .iload_n 2, 0, 0, 0), (8, .invokevirtual 171, 0, 0, 0), (11, .aload_n 0, 0, 0, 0), (12, .getfield 138, 5, 31, 0), (15, .ifCond .le 17, 0, 0, 0), (18, .aload_n 0, 0, 0, 0), (19, .getfield 84, 5, 12, 0), (22, .ifCond .ne 10, 0, 0, 0), (25, .aload_n 0, 0, 0, 0), (26, .invokevirtual 213, 0, 0, 0), (29, .goto (-18), 0, 0, 0), (32, .return_, 0, 0, 0)]
/-- NeedMachineModel.push(II)V -/
def zm_c86 : List (Nat × zm_I) := [(0, .aload_n 0, 0, 0, 0), (1, .getfield 138, 5, 31, 0), (4, .bipush 60, 0, 0, 0), (6, .if_icmp .ne 9, 0, 0, 0), (9, .aload_n 0, 0, 0, 0), (10, .iconst 4, 0, 0, 0), (11, .putfield 84, 5, 12, 0), (14, .return_, 0, 0, 0), (15, .aload_n 0, 0, 0, 0), (16, .dup, 0, 0, 0), (17, .getfield 138, 5, 31, 0), (20, .iconst 1, 0, 0, 0), (21, .iadd, 0, 0, 0), (22, .putfield 138, 5, 31, 0), (25, .aload_n 0, 0, 0, 0), (26, .getfield 138, 5, 31, 0), (29, .aload_n 0, 0, 0, 0), (30, .getfield 141, 5, 32, 0), (33, .if_icmp .le 11, 0, 0, 0), (36, .aload_n 0, 0, 0, 0), (37, .aload_n 0, 0, 0, 0), (38, .getfield 138, 5, 31, 0), (41, .putfield 141, 5, 32, 0), (44, .aload_n 0, 0, 0, 0), (45, .getfield 69, 5, 26, 0), (48, .aload_n 0, 0, 0, 0), (49, .getfield 138, 5, 31, 0), (52, .iload_n 1, 0, 0, 0), (53, .iastore, 0, 0, 0), (54, .aload_n 0, 0, 0, 0), (55, .getfield 72, 5, 27, 0), (58, .aload_n 0, 0, 0, 0), (59, .getfield 138, 5, 31, 0), (62, .iload_n 2, 0, 0, 0), (63, .iastore, 0, 0, 0), (64, .aload_n 0, 0, 0, 0), (65, .getfield 75, 5, 28, 0), (68, .aload_n 0, 0, 0, 0), (69, .getfield 138, 5, 31, 0), (72, .iconst 0, 0, 0, 0), (73, .iastore, 0, 0, 0), (74, .aload_n 0, 0, 0, 0), (75, .getfield 81, 5, 30, 0), (78, .aload_n 0, 0, 0, 0), (79, .getfield 138, 5, 31, 0), (82, .iconst (-1), 0, 0, 0), (83, .iastore, 0, 0, 0), (84, .return_, 0, 0, 0)]
/-- NeedMachineModel.step()V -/
def zm_c87 : List (Nat × zm_I) := [(0, .aload_n 0, 0, 0, 0), (1, .getfield 138, 5, 31, 0), (4, .istore_n 1, 0, 0, 0), (5, .aload_n 0, 0, 0, 0), (6, .getfield 69, 5, 26, 0), (9, .iload_n 1, 0, 0, 0), (10, .iaload, 0, 0, 0), (11, .istore_n 2, 0, 0, 0), (12, .aload_n 0, 0, 0, 0), (13, .getfield 13, 5, 1, 0), (16, .iload_n 2, 0, 0, 0), (17, .iaload, 0, 0, 0), (18, .istore_n 3, 0, 0, 0), (19, .aload_n 0, 0, 0, 0), (20, .getfield 75, 5, 28, 0), (23, .iload_n 1, 0, 0, 0), (24, .iaload, 0, 0, 0), (25, .iconst 3, 0, 0, 0), (26, .if_icmp .ne 10, 0, 0, 0), (29, .aload_n 0, 0, 0, 0), (30, .invokevirtual 204, 0, 0, 0), (33, .goto 203, 0, 0, 0), (36, .aload_n 0, 0, 0, 0), (37, .getfield 75, 5, 28, 0), (40, .iload_n 1, 0, 0, 0), (41, .iaload, 0, 0, 0), (42, .iconst 4, 0, 0, 0), (43, .if_icmp .ne 16, 0, 0, 0), (46, .aload_n 0, 0, 0, 0), (47, .dup, 0, 0, 0), (48, .getfield 138, 5, 31, 0), (51, .iconst 1, 0, 0, 0), (52, .isub, 0, 0, 0), (53, .putfield 138, 5, 31, 0), (56, .goto 180, 0, 0, 0), (59, .aload_n 0, 0, 0, 0), (60, .getfield 75, 5, 28, 0), (63, .iload_n 1, 0, 0, 0), (64, .iaload, 0, 0, 0), (65, .ifCond .le 12, 0, 0, 0), (68, .aload_n 0, 0, 0, 0), (69, .iload_n 1, 0, 0, 0), (70, .iload_n 3, 0, 0, 0), (71, .invokevirtual 207, 0, 0, 0), (74, .goto 162, 0, 0, 0), (77, .iload_n 3, 0, 0, 0), (78, .bipush 48, 0, 0, 0), (80, .bipush 57, 0, 0, 0), (82, .invokestatic 87, 0, 0, 0), (85, .ifCond .eq 16, 0, 0, 0), (88, .aload_n 0, 0, 0, 0), (89, .iconst 0, 0, 0, 0), (90, .iload_n 3, 0, 0, 0), (91, .bipush 48, 0, 0, 0), (93, .isub, 0, 0, 0), (94, .iconst 0, 0, 0, 0), (95, .invokevirtual 157, 0, 0, 0), (98, .goto 138, 0, 0, 0), (101, .iload_n 3, 0, 0, 0), (102, .bipush 110, 0, 0, 0), (104, .if_icmp .ne 13, 0, 0, 0), (107, .aload_n 0, 0, 0, 0), (108, .iconst 1, 0, 0, 0), (109, .iconst 0, 0, 0, 0), (110, .iconst 0, 0, 0, 0), (111, .invokevirtual 157, 0, 0, 0), (114, .goto 122, 0, 0, 0), (117, .iload_n 3, 0, 0, 0), (118, .bipush 97, 0, 0, 0), (120, .bipush 102, 0, 0, 0), (122, .invokestatic 87, 0, 0, 0), (125, .ifCond .eq 21, 0, 0, 0), (128, .aload_n 0, 0, 0, 0), (129, .aload_n 0, 0, 0, 0), (130, .iload_n 3, 0, 0, 0), (131, .aload_n 0, 0, 0, 0), (132, .getfield 72, 5, 27, 0), (135, .iload_n 1, 0, 0, 0), (136, .iaload, 0, 0, 0), (137, .invokevirtual 153, 0, 0, 0), (140, .invokevirtual 193, 0, 0, 0), (143, .goto 93, 0, 0, 0), (146, .iload_n 3, 0, 0, 0), (147, .bipush 65, 0, 0, 0), (149, .bipush 70, 0, 0, 0), (151, .invokestatic 87, 0, 0, 0), (154, .ifCond .eq 14, 0, 0, 0), (157, .aload_n 0, 0, 0, 0), (158, .iload_n 3, 0, 0, 0), (159, .bipush 65, 0, 0, 0), (161, .isub, 0, 0, 0), (162, .invokevirtual 210, 0, 0, 0), (165, .goto 71, 0, 0, 0), (168, .iload_n 3, 0, 0, 0), (169, .bipush 58, 0, 0, 0), (171, .if_icmp .ne 45, 0, 0, 0), (174, .aload_n 0, 0, 0, 0), (175, .iload_n 2, 0, 0, 0), (176, .iconst 1, 0, 0, 0), (177, .iadd, 0, 0, 0), (178, .aload_n 0, 0, 0, 0), (179, .getfield 72, 5, 27, 0), (182, .iload_n 1, 0, 0, 0), (183, .iaload, 0, 0, 0), (184, .invokevirtual 181, 0, 0, 0), (187, .istore 4, 0, 0, 0), (189, .aload_n 0, 0, 0, 0), (190, .iconst 2, 0, 0, 0), (191, .iload 4, 0, 0, 0), (193, .aload_n 0, 0, 0, 0), (194, .aload_n 0, 0, 0, 0), (195, .iload_n 2, 0, 0, 0), (196, .iconst 1, 0, 0, 0), (197, .iadd, 0, 0, 0), (198, .invokevirtual 126, 0, 0, 0), (201, .aload_n 0, 0, 0, 0), (202, .getfield 72, 5, 27, 0), (205, .iload_n 1, 0, 0, 0), (206, .iaload, 0, 0, 0), (207, .invokevirtual 181, 0, 0, 0), (210, .invokevirtual 157, 0, 0, 0), (213, .goto 23, 0, 0, 0), (216, .aload_n 0, 0, 0, 0), (217, .getfield 75, 5, 28, 0), (220, .iload_n 1, 0, 0, 0), (221, .iconst 1, 0, 0, 0), (222, .iastore, 0, 0, 0), (223, .aload_n 0, 0, 0, 0), (224, .iload_n 2, 0, 0, 0), (225, .iconst 1, 0, 0, 0), (226, .iadd, 0, 0, 0), (227, .aload_n 0, 0, 0, 0), (228, .getfield 72, 5, 27, 0), (231, .iload_n 1, 0, 0, 0), (232, .iaload, 0, 0, 0), (233, .invokevirtual 171, 0, 0, 0), (236, .return_, 0, 0, 0)]
/-- NeedMachineModel.keepValue()V -/
def zm_c88 : List (Nat × zm_I) := [(0, .aload_n 0, 0, 0, 0), (1, .getfield 81, 5, 30, 0), (4, .aload_n 0, 0, 0, 0), (5, .getfield 138, 5, 31, 0), (8, .iaload, 0, 0, 0), (9, .istore_n 1, 0, 0, 0), (10, .aload_n 0, 0, 0, 0), (11, .getfield 45, 5, 15, 0), (14, .iload_n 1, 0, 0, 0), (15, .iconst 2, 0, 0, 0), (16, .iastore, 0, 0, 0), (17, .aload_n 0, 0, 0, 0), (18, .getfield 48, 5, 16, 0), (21, .iload_n 1, 0, 0, 0), (22, .aload_n 0, 0, 0, 0), (23, .getfield 144, 5, 37, 0), (26, .iastore, 0, 0, 0), (27, .aload_n 0, 0, 0, 0), (28, .getfield 51, 5, 17, 0), (31, .iload_n 1, 0, 0, 0), (32, .aload_n 0, 0, 0, 0), (33, .getfield 147, 5, 38, 0), (36, .iastore, 0, 0, 0), (37, .aload_n 0, 0, 0, 0), (38, .getfield 54, 5, 18, 0), (41, .iload_n 1, 0, 0, 0), (42, .aload_n 0, 0, 0, 0), (43, .getfield 150, 5, 39, 0), (46, .iastore, 0, 0, 0), (47, .aload_n 0, 0, 0, 0), (48, .iload_n 1, 0, 0, 0), (49, .invokevirtual 164, 0, 0, 0), (52, .return_, 0, 0, 0)]
/-- NeedMachineModel.giveClosure(I)V -/
def zm_c89 : List (Nat × zm_I) := [(0, .aload_n 0, 0, 0, 0), (1, .aload_n 0, 0, 0, 0), (2, .getfield 48, 5, 16, 0), (5, .iload_n 1, 0, 0, 0), (6, .iaload, 0, 0, 0), (7, .aload_n 0, 0, 0, 0), (8, .getfield 51, 5, 17, 0), (11, .iload_n 1, 0, 0, 0), (12, .iaload, 0, 0, 0), (13, .aload_n 0, 0, 0, 0), (14, .getfield 54, 5, 18, 0), (17, .iload_n 1, 0, 0, 0), (18, .iaload, 0, 0, 0), (19, .invokevirtual 157, 0, 0, 0), (22, .return_, 0, 0, 0)]
/-- NeedMachineModel.give(III)V -/
def zm_c90 : List (Nat × zm_I) := [(0, .aload_n 0, 0, 0, 0), (1, .iload_n 1, 0, 0, 0), (2, .putfield 144, 5, 37, 0), (5, .aload_n 0, 0, 0, 0), (6, .iload_n 2, 0, 0, 0), (7, .putfield 147, 5, 38, 0), (10, .aload_n 0, 0, 0, 0), (11, .iload_n 3, 0, 0, 0), (12, .putfield 150, 5, 39, 0), (15, .aload_n 0, 0, 0, 0), (16, .dup, 0, 0, 0), (17, .getfield 138, 5, 31, 0), (20, .iconst 1, 0, 0, 0), (21, .isub, 0, 0, 0), (22, .putfield 138, 5, 31, 0), (25, .return_, 0, 0, 0)]
/-- NeedMachineModel.goOn(II)V -/
def zm_c91 : List (Nat × zm_I) := [(0, .aload_n 0, 0, 0, 0), (1, .getfield 69, 5, 26, 0), (4, .iload_n 1, 0, 0, 0), (5, .iaload, 0, 0, 0), (6, .istore_n 3, 0, 0, 0), (7, .iload_n 2, 0, 0, 0), (8, .bipush 46, 0, 0, 0), (10, .if_icmp .ne 11, 0, 0, 0), (13, .aload_n 0, 0, 0, 0), (14, .iload_n 1, 0, 0, 0), (15, .invokevirtual 190, 0, 0, 0), (18, .goto 259, 0, 0, 0), (21, .iload_n 2, 0, 0, 0), (22, .bipush 122, 0, 0, 0), (24, .if_icmp .ne 49, 0, 0, 0), (27, .aload_n 0, 0, 0, 0), (28, .getfield 144, 5, 37, 0), (31, .iconst 1, 0, 0, 0), (32, .if_icmp .eq 19, 0, 0, 0), (35, .aload_n 0, 0, 0, 0), (36, .getfield 144, 5, 37, 0), (39, .iconst 2, 0, 0, 0), (40, .if_icmp .eq 11, 0, 0, 0), (43, .aload_n 0, 0, 0, 0), (44, .iconst 5, 0, 0, 0), (45, .putfield 84, 5, 12, 0), (48, .goto 229, 0, 0, 0), (51, .aload_n 0, 0, 0, 0), (52, .iconst 0, 0, 0, 0), (53, .aload_n 0, 0, 0, 0), (54, .getfield 144, 5, 37, 0), (57, .iconst 1, 0, 0, 0), (58, .if_icmp .ne 7, 0, 0, 0), (61, .iconst 1, 0, 0, 0), (62, .goto 4, 0, 0, 0), (65, .iconst 0, 0, 0, 0), (66, .iconst 0, 0, 0, 0), (67, .invokevirtual 157, 0, 0, 0), (70, .goto 207, 0, 0, 0), (73, .iload_n 2, 0, 0, 0), (74, .bipush 104, 0, 0, 0), (76, .if_icmp .eq 9, 0, 0, 0), (79, .iload_n 2, 0, 0, 0), (80, .bipush 116, 0, 0, 0), (82, .if_icmp .ne 55, 0, 0, 0), (85, .aload_n 0, 0, 0, 0), (86, .getfield 144, 5, 37, 0), (89, .iconst 2, 0, 0, 0), (90, .if_icmp .eq 23, 0, 0, 0), (93, .aload_n 0, 0, 0, 0), (94, .aload_n 0, 0, 0, 0), (95, .getfield 144, 5, 37, 0), (98, .iconst 1, 0, 0, 0), (99, .if_icmp .ne 7, 0, 0, 0), (102, .iconst 2, 0, 0, 0), (103, .goto 4, 0, 0, 0), (106, .iconst 5, 0, 0, 0), (107, .putfield 84, 5, 12, 0), (110, .goto 167, 0, 0, 0), (113, .aload_n 0, 0, 0, 0), (114, .iload_n 2, 0, 0, 0), (115, .bipush 104, 0, 0, 0), (117, .if_icmp .ne 10, 0, 0, 0), (120, .aload_n 0, 0, 0, 0), (121, .getfield 147, 5, 38, 0), (124, .goto 7, 0, 0, 0), (127, .aload_n 0, 0, 0, 0), (128, .getfield 150, 5, 39, 0), (131, .invokevirtual 193, 0, 0, 0), (134, .goto 143, 0, 0, 0), (137, .aload_n 0, 0, 0, 0), (138, .invokevirtual 196, 0, 0, 0), (141, .ifCond .ne 4, 0, 0, 0), (144, .return_, 0, 0, 0), (145, .iload_n 2, 0, 0, 0), (146, .bipush 63, 0, 0, 0), (148, .if_icmp .ne 50, 0, 0, 0), (151, .aload_n 0, 0, 0, 0), (152, .iload_n 3, 0, 0, 0), (153, .iconst 1, 0, 0, 0), (154, .iadd, 0, 0, 0), (155, .invokevirtual 126, 0, 0, 0), (158, .istore 4, 0, 0, 0), (160, .aload_n 0, 0, 0, 0), (161, .getfield 75, 5, 28, 0), (164, .iload_n 1, 0, 0, 0), (165, .iconst 4, 0, 0, 0), (166, .iastore, 0, 0, 0), (167, .aload_n 0, 0, 0, 0), (168, .aload_n 0, 0, 0, 0), (169, .getfield 147, 5, 38, 0), (172, .ifCond .eq 8, 0, 0, 0), (175, .iload 4, 0, 0, 0), (177, .goto 9, 0, 0, 0), (180, .aload_n 0, 0, 0, 0), (181, .iload 4, 0, 0, 0), (183, .invokevirtual 126, 0, 0, 0), (186, .aload_n 0, 0, 0, 0), (187, .getfield 72, 5, 27, 0), (190, .iload_n 1, 0, 0, 0), (191, .iaload, 0, 0, 0), (192, .invokevirtual 171, 0, 0, 0), (195, .goto 82, 0, 0, 0), (198, .aload_n 0, 0, 0, 0), (199, .getfield 75, 5, 28, 0), (202, .iload_n 1, 0, 0, 0), (203, .iaload, 0, 0, 0), (204, .iconst 1, 0, 0, 0), (205, .if_icmp .ne 40, 0, 0, 0), (208, .aload_n 0, 0, 0, 0), (209, .getfield 78, 5, 29, 0), (212, .iload_n 1, 0, 0, 0), (213, .aload_n 0, 0, 0, 0), (214, .getfield 147, 5, 38, 0), (217, .iastore, 0, 0, 0), (218, .aload_n 0, 0, 0, 0), (219, .getfield 75, 5, 28, 0), (222, .iload_n 1, 0, 0, 0), (223, .iconst 2, 0, 0, 0), (224, .iastore, 0, 0, 0), (225, .aload_n 0, 0, 0, 0), (226, .aload_n 0, 0, 0, 0), (227, .iload_n 3, 0, 0, 0), (228, .iconst 1, 0, 0, 0), (229, .iadd, 0, 0, 0), (230, .invokevirtual 126, 0, 0, 0), (233, .aload_n 0, 0, 0, 0), (234, .getfield 72, 5, 27, 0), (237, .iload_n 1, 0, 0, 0), (238, .iaload, 0, 0, 0), (239, .invokevirtual 171, 0, 0, 0), (242, .goto 35, 0, 0, 0), (245, .aload_n 0, 0, 0, 0), (246, .iload_n 2, 0, 0, 0), (247, .aload_n 0, 0, 0, 0), (248, .getfield 78, 5, 29, 0), (251, .iload_n 1, 0, 0, 0), (252, .iaload, 0, 0, 0), (253, .aload_n 0, 0, 0, 0), (254, .getfield 147, 5, 38, 0), (257, .invokevirtual 200, 0, 0, 0), (260, .istore 4, 0, 0, 0), (262, .aload_n 0, 0, 0, 0), (263, .getfield 84, 5, 12, 0), (266, .ifCond .ne 11, 0, 0, 0), (269, .aload_n 0, 0, 0, 0), (270, .iconst 0, 0, 0, 0), (271, .iload 4, 0, 0, 0), (273, .iconst 0, 0, 0, 0), (274, .invokevirtual 157, 0, 0, 0), (277, .return_, 0, 0, 0)]
/-- NeedMachineModel.apply(I)V -/
def zm_c92 : List (Nat × zm_I) := [(0, .aload_n 0, 0, 0, 0), (1, .getfield 144, 5, 37, 0), (4, .iconst 3, 0, 0, 0), (5, .if_icmp .eq 9, 0, 0, 0), (8, .aload_n 0, 0, 0, 0), (9, .iconst 5, 0, 0, 0), (10, .putfield 84, 5, 12, 0), (13, .return_, 0, 0, 0), (14, .aload_n 0, 0, 0, 0), (15, .getfield 147, 5, 38, 0), (18, .istore_n 2, 0, 0, 0), (19, .aload_n 0, 0, 0, 0), (20, .getfield 69, 5, 26, 0), (23, .iload_n 1, 0, 0, 0), (24, .iaload, 0, 0, 0), (25, .istore_n 3, 0, 0, 0), (26, .aload_n 0, 0, 0, 0), (27, .getfield 63, 5, 21, 0), (30, .aload_n 0, 0, 0, 0), (31, .getfield 129, 5, 25, 0), (34, .aload_n 0, 0, 0, 0), (35, .aload_n 0, 0, 0, 0), (36, .iload_n 3, 0, 0, 0), (37, .iconst 1, 0, 0, 0), (38, .iadd, 0, 0, 0), (39, .invokevirtual 126, 0, 0, 0), (42, .aload_n 0, 0, 0, 0), (43, .getfield 72, 5, 27, 0), (46, .iload_n 1, 0, 0, 0), (47, .iaload, 0, 0, 0), (48, .invokevirtual 181, 0, 0, 0), (51, .iastore, 0, 0, 0), (52, .aload_n 0, 0, 0, 0), (53, .getfield 66, 5, 22, 0), (56, .aload_n 0, 0, 0, 0), (57, .getfield 129, 5, 25, 0), (60, .aload_n 0, 0, 0, 0), (61, .getfield 150, 5, 39, 0), (64, .iastore, 0, 0, 0), (65, .aload_n 0, 0, 0, 0), (66, .dup, 0, 0, 0), (67, .getfield 129, 5, 25, 0), (70, .iconst 1, 0, 0, 0), (71, .iadd, 0, 0, 0), (72, .putfield 129, 5, 25, 0), (75, .aload_n 0, 0, 0, 0), (76, .getfield 129, 5, 25, 0), (79, .iconst 1, 0, 0, 0), (80, .isub, 0, 0, 0), (81, .istore 4, 0, 0, 0), (83, .aload_n 0, 0, 0, 0), (84, .iload 4, 0, 0, 0), (86, .invokevirtual 184, 0, 0, 0), (89, .istore 5, 0, 0, 0), (91, .aload_n 0, 0, 0, 0), (92, .getfield 31, 5, 7, 0), (95, .iload_n 2, 0, 0, 0), (96, .baload, 0, 0, 0), (97, .ifCond .ne 11, 0, 0, 0), (100, .aload_n 0, 0, 0, 0), (101, .iconst 2, 0, 0, 0), (102, .putfield 84, 5, 12, 0), (105, .goto 34, 0, 0, 0), (108, .iload 5, 0, 0, 0), (110, .aload_n 0, 0, 0, 0), (111, .getfield 25, 5, 5, 0), (114, .iload_n 2, 0, 0, 0), (115, .iaload, 0, 0, 0), (116, .if_icmp .ge 14, 0, 0, 0), (119, .aload_n 0, 0, 0, 0), (120, .iconst 3, 0, 0, 0), (121, .iload_n 2, 0, 0, 0), (122, .iload 4, 0, 0, 0), (124, .invokevirtual 157, 0, 0, 0), (127, .goto 12, 0, 0, 0), (130, .aload_n 0, 0, 0, 0), (131, .iload_n 2, 0, 0, 0), (132, .iload 4, 0, 0, 0), (134, .iload 5, 0, 0, 0), (136, .invokevirtual 187, 0, 0, 0), (139, .return_, 0, 0, 0)]
/-- NeedMachineModel.closureOf(II)I -/
def zm_c93 : List (Nat × zm_I) := [(0, .aload_n 0, 0, 0, 0), (1, .getfield 13, 5, 1, 0), (4, .iload_n 1, 0, 0, 0), (5, .iaload, 0, 0, 0), (6, .bipush 97, 0, 0, 0), (8, .bipush 102, 0, 0, 0), (10, .invokestatic 87, 0, 0, 0), (13, .ifCond .eq 15, 0, 0, 0), (16, .aload_n 0, 0, 0, 0), (17, .aload_n 0, 0, 0, 0), (18, .getfield 13, 5, 1, 0), (21, .iload_n 1, 0, 0, 0), (22, .iaload, 0, 0, 0), (23, .iload_n 2, 0, 0, 0), (24, .invokevirtual 153, 0, 0, 0), (27, .ireturn, 0, 0, 0), (28, .aload_n 0, 0, 0, 0), (29, .getfield 39, 5, 13, 0), (32, .aload_n 0, 0, 0, 0), (33, .getfield 135, 5, 23, 0), (36, .iload_n 1, 0, 0, 0), (37, .iastore, 0, 0, 0), (38, .aload_n 0, 0, 0, 0), (39, .getfield 42, 5, 14, 0), (42, .aload_n 0, 0, 0, 0), (43, .getfield 135, 5, 23, 0), (46, .iload_n 2, 0, 0, 0), (47, .iastore, 0, 0, 0), (48, .aload_n 0, 0, 0, 0), (49, .getfield 45, 5, 15, 0), (52, .aload_n 0, 0, 0, 0), (53, .getfield 135, 5, 23, 0), (56, .iconst 0, 0, 0, 0), (57, .iastore, 0, 0, 0), (58, .aload_n 0, 0, 0, 0), (59, .dup, 0, 0, 0), (60, .getfield 135, 5, 23, 0), (63, .iconst 1, 0, 0, 0), (64, .iadd, 0, 0, 0), (65, .putfield 135, 5, 23, 0), (68, .aload_n 0, 0, 0, 0), (69, .getfield 135, 5, 23, 0), (72, .iconst 1, 0, 0, 0), (73, .isub, 0, 0, 0), (74, .ireturn, 0, 0, 0)]
/-- NeedMachineModel.parameterOf(II)I -/
def zm_c94 : List (Nat × zm_I) := [(0, .iload_n 2, 0, 0, 0), (1, .iconst 4, 0, 0, 0), (2, .imul, 0, 0, 0), (3, .istore_n 3, 0, 0, 0), (4, .aload_n 0, 0, 0, 0), (5, .getfield 57, 5, 19, 0), (8, .iload_n 3, 0, 0, 0), (9, .iaload, 0, 0, 0), (10, .iload_n 1, 0, 0, 0), (11, .if_icmp .eq 9, 0, 0, 0), (14, .iinc 3 1, 0, 0, 0), (17, .goto (-13), 0, 0, 0), (20, .aload_n 0, 0, 0, 0), (21, .getfield 60, 5, 20, 0), (24, .iload_n 3, 0, 0, 0), (25, .iaload, 0, 0, 0), (26, .ireturn, 0, 0, 0)]
/-- NeedMachineModel.countOf(I)I -/
def zm_c95 : List (Nat × zm_I) := [(0, .iconst 0, 0, 0, 0), (1, .istore_n 2, 0, 0, 0), (2, .iload_n 1, 0, 0, 0), (3, .istore_n 3, 0, 0, 0), (4, .iload_n 3, 0, 0, 0), (5, .ifCond .lt 16, 0, 0, 0), (8, .iinc 2 1, 0, 0, 0), (11, .aload_n 0, 0, 0, 0), (12, .getfield 66, 5, 22, 0), (15, .iload_n 3, 0, 0, 0), (16, .iaload, 0, 0, 0), (17, .istore_n 3, 0, 0, 0), (18, .goto (-14), 0, 0, 0), (21, .iload_n 2, 0, 0, 0), (22, .ireturn, 0, 0, 0)]
/-- NeedMachineModel.call(III)V -/
def zm_c96 : List (Nat × zm_I) := [(0, .aload_n 0, 0, 0, 0), (1, .getfield 175, 5, 33, 0), (4, .sipush 400, 0, 0, 0), (7, .if_icmp .ne 9, 0, 0, 0), (10, .aload_n 0, 0, 0, 0), (11, .iconst 4, 0, 0, 0), (12, .putfield 84, 5, 12, 0), (15, .return_, 0, 0, 0), (16, .aload_n 0, 0, 0, 0), (17, .dup, 0, 0, 0), (18, .getfield 175, 5, 33, 0), (21, .iconst 1, 0, 0, 0), (22, .iadd, 0, 0, 0), (23, .putfield 175, 5, 33, 0), (26, .aload_n 0, 0, 0, 0), (27, .dup, 0, 0, 0), (28, .getfield 178, 5, 34, 0), (31, .iconst 1, 0, 0, 0), (32, .iadd, 0, 0, 0), (33, .putfield 178, 5, 34, 0), (36, .iload_n 2, 0, 0, 0), (37, .istore 4, 0, 0, 0), (39, .aload_n 0, 0, 0, 0), (40, .getfield 132, 5, 24, 0), (43, .istore 5, 0, 0, 0), (45, .aload_n 0, 0, 0, 0), (46, .dup, 0, 0, 0), (47, .getfield 132, 5, 24, 0), (50, .iconst 1, 0, 0, 0), (51, .iadd, 0, 0, 0), (52, .putfield 132, 5, 24, 0), (55, .iconst 0, 0, 0, 0), (56, .istore 6, 0, 0, 0), (58, .iload 6, 0, 0, 0), (60, .iconst 4, 0, 0, 0), (61, .if_icmp .ge 22, 0, 0, 0), (64, .aload_n 0, 0, 0, 0), (65, .getfield 57, 5, 19, 0), (68, .iload 5, 0, 0, 0), (70, .iconst 4, 0, 0, 0), (71, .imul, 0, 0, 0), (72, .iload 6, 0, 0, 0), (74, .iadd, 0, 0, 0), (75, .iconst 0, 0, 0, 0), (76, .iastore, 0, 0, 0), (77, .iinc 6 1, 0, 0, 0), (80, .goto (-22), 0, 0, 0), (83, .iload_n 3, 0, 0, 0), (84, .iconst 1, 0, 0, 0), (85, .isub, 0, 0, 0), (86, .istore 6, 0, 0, 0), (88, .iload 6, 0, 0, 0), (90, .ifCond .lt 71, 0, 0, 0), (93, .iload 6, 0, 0, 0), (95, .aload_n 0, 0, 0, 0), (96, .getfield 25, 5, 5, 0), (99, .iload_n 1, 0, 0, 0), (100, .iaload, 0, 0, 0), (101, .if_icmp .ge 45, 0, 0, 0), (104, .aload_n 0, 0, 0, 0), (105, .getfield 57, 5, 19, 0), (108, .iload 5, 0, 0, 0), (110, .iconst 4, 0, 0, 0), (111, .imul, 0, 0, 0), (112, .iload 6, 0, 0, 0), (114, .iadd, 0, 0, 0), (115, .aload_n 0, 0, 0, 0), (116, .getfield 22, 5, 4, 0), (119, .iload_n 1, 0, 0, 0), (120, .iconst 4, 0, 0, 0), (121, .imul, 0, 0, 0), (122, .iload 6, 0, 0, 0), (124, .iadd, 0, 0, 0), (125, .iaload, 0, 0, 0), (126, .iastore, 0, 0, 0), (127, .aload_n 0, 0, 0, 0), (128, .getfield 60, 5, 20, 0), (131, .iload 5, 0, 0, 0), (133, .iconst 4, 0, 0, 0), (134, .imul, 0, 0, 0), (135, .iload 6, 0, 0, 0), (137, .iadd, 0, 0, 0), (138, .aload_n 0, 0, 0, 0), (139, .getfield 63, 5, 21, 0), (142, .iload 4, 0, 0, 0), (144, .iaload, 0, 0, 0), (145, .iastore, 0, 0, 0), (146, .aload_n 0, 0, 0, 0), (147, .getfield 66, 5, 22, 0), (150, .iload 4, 0, 0, 0), (152, .iaload, 0, 0, 0), (153, .istore 4, 0, 0, 0), (155, .iinc 6 (-1), 0, 0, 0), (158, .goto (-70), 0, 0, 0), (161, .aload_n 0, 0, 0, 0), (162, .getfield 75, 5, 28, 0), (165, .aload_n 0, 0, 0, 0), (166, .getfield 138, 5, 31, 0), (169, .iconst 4, 0, 0, 0), (170, .iastore, 0, 0, 0), (171, .aload_n 0, 0, 0, 0), (172, .aload_n 0, 0, 0, 0), (173, .getfield 19, 5, 3, 0), (176, .iload_n 1, 0, 0, 0), (177, .iaload, 0, 0, 0), (178, .iload 5, 0, 0, 0), (180, .invokevirtual 171, 0, 0, 0), (183, .return_, 0, 0, 0)]
/-- NeedMachineModel.force(I)V -/
def zm_c97 : List (Nat × zm_I) := [(0, .aload_n 0, 0, 0, 0), (1, .getfield 45, 5, 15, 0), (4, .iload_n 1, 0, 0, 0), (5, .iaload, 0, 0, 0), (6, .iconst 2, 0, 0, 0), (7, .if_icmp .ne 19, 0, 0, 0), (10, .aload_n 0, 0, 0, 0), (11, .dup, 0, 0, 0), (12, .getfield 161, 5, 36, 0), (15, .iconst 1, 0, 0, 0), (16, .iadd, 0, 0, 0), (17, .putfield 161, 5, 36, 0), (20, .aload_n 0, 0, 0, 0), (21, .iload_n 1, 0, 0, 0), (22, .invokevirtual 164, 0, 0, 0), (25, .return_, 0, 0, 0), (26, .aload_n 0, 0, 0, 0), (27, .getfield 45, 5, 15, 0), (30, .iload_n 1, 0, 0, 0), (31, .iaload, 0, 0, 0), (32, .iconst 1, 0, 0, 0), (33, .if_icmp .ne 9, 0, 0, 0), (36, .aload_n 0, 0, 0, 0), (37, .iconst 4, 0, 0, 0), (38, .putfield 84, 5, 12, 0), (41, .return_, 0, 0, 0), (42, .aload_n 0, 0, 0, 0), (43, .dup, 0, 0, 0), (44, .getfield 168, 5, 35, 0), (47, .iconst 1, 0, 0, 0), (48, .iadd, 0, 0, 0), (49, .putfield 168, 5, 35, 0), (52, .aload_n 0, 0, 0, 0), (53, .getfield 45, 5, 15, 0), (56, .iload_n 1, 0, 0, 0), (57, .iconst 1, 0, 0, 0), (58, .iastore, 0, 0, 0), (59, .aload_n 0, 0, 0, 0), (60, .getfield 81, 5, 30, 0), (63, .aload_n 0, 0, 0, 0), (64, .getfield 138, 5, 31, 0), (67, .iload_n 1, 0, 0, 0), (68, .iastore, 0, 0, 0), (69, .aload_n 0, 0, 0, 0), (70, .getfield 75, 5, 28, 0), (73, .aload_n 0, 0, 0, 0), (74, .getfield 138, 5, 31, 0), (77, .iconst 3, 0, 0, 0), (78, .iastore, 0, 0, 0), (79, .aload_n 0, 0, 0, 0), (80, .aload_n 0, 0, 0, 0), (81, .getfield 39, 5, 13, 0), (84, .iload_n 1, 0, 0, 0), (85, .iaload, 0, 0, 0), (86, .aload_n 0, 0, 0, 0), (87, .getfield 42, 5, 14, 0), (90, .iload_n 1, 0, 0, 0), (91, .iaload, 0, 0, 0), (92, .invokevirtual 171, 0, 0, 0), (95, .return_, 0, 0, 0)]
/-- NeedMachineModel.isNumber()Z -/
def zm_c98 : List (Nat × zm_I) := [(0, .aload_n 0, 0, 0, 0), (1, .getfield 144, 5, 37, 0), (4, .ifCond .eq 8, 0, 0, 0), (7, .aload_n 0, 0, 0, 0), (8, .iconst 5, 0, 0, 0), (9, .putfield 84, 5, 12, 0), (12, .aload_n 0, 0, 0, 0), (13, .getfield 84, 5, 12, 0), (16, .ifCond .ne 7, 0, 0, 0), (19, .iconst 1, 0, 0, 0), (20, .goto 4, 0, 0, 0), (23, .iconst 0, 0, 0, 0), (24, .ireturn, 0, 0, 0)]
/-- NeedMachineModel.binary(III)I -/
def zm_c99 : List (Nat × zm_I) := [(0, .iload_n 1, 0, 0, 0), (1, .bipush 47, 0, 0, 0), (3, .if_icmp .eq 9, 0, 0, 0), (6, .iload_n 1, 0, 0, 0), (7, .bipush 37, 0, 0, 0), (9, .if_icmp .ne 13, 0, 0, 0), (12, .iload_n 3, 0, 0, 0), (13, .ifCond .ne 9, 0, 0, 0), (16, .aload_n 0, 0, 0, 0), (17, .iconst 3, 0, 0, 0), (18, .invokevirtual 98, 0, 0, 0), (21, .ireturn, 0, 0, 0), (22, .iload_n 1, 0, 0, 0), (23, .lookupswitch 88 #[(37, 73), (42, 65), (43, 57), (45, 61), (47, 69), (60, 77)], 57, 0, 0), (80, .iload_n 2, 0, 0, 0), (81, .iload_n 3, 0, 0, 0), (82, .iadd, 0, 0, 0), (83, .ireturn, 0, 0, 0), (84, .iload_n 2, 0, 0, 0), (85, .iload_n 3, 0, 0, 0), (86, .isub, 0, 0, 0), (87, .ireturn, 0, 0, 0), (88, .iload_n 2, 0, 0, 0), (89, .iload_n 3, 0, 0, 0), (90, .imul, 0, 0, 0), (91, .ireturn, 0, 0, 0), (92, .iload_n 2, 0, 0, 0), (93, .iload_n 3, 0, 0, 0), (94, .idiv, 0, 0, 0), (95, .ireturn, 0, 0, 0), (96, .iload_n 2, 0, 0, 0), (97, .iload_n 3, 0, 0, 0), (98, .irem, 0, 0, 0), (99, .ireturn, 0, 0, 0), (100, .iload_n 2, 0, 0, 0), (101, .iload_n 3, 0, 0, 0), (102, .if_icmp .ge 7, 0, 0, 0), (105, .iconst 1, 0, 0, 0), (106, .goto 4, 0, 0, 0), (109, .iconst 0, 0, 0, 0), (110, .ireturn, 0, 0, 0), (111, .iload_n 2, 0, 0, 0), (112, .iload_n 3, 0, 0, 0), (113, .if_icmp .ne 7, 0, 0, 0), (116, .iconst 1, 0, 0, 0), (117, .goto 4, 0, 0, 0), (120, .iconst 0, 0, 0, 0), (121, .ireturn, 0, 0, 0)]
/-- NeedMachineModel.nameAt(I)V -/
def zm_c100 : List (Nat × zm_I) := [(0, .aload_n 0, 0, 0, 0), (1, .getfield 31, 5, 7, 0), (4, .iload_n 1, 0, 0, 0), (5, .baload, 0, 0, 0), (6, .ifCond .ne 11, 0, 0, 0), (9, .aload_n 0, 0, 0, 0), (10, .iconst 2, 0, 0, 0), (11, .putfield 84, 5, 12, 0), (14, .goto 29, 0, 0, 0), (17, .aload_n 0, 0, 0, 0), (18, .getfield 25, 5, 5, 0), (21, .iload_n 1, 0, 0, 0), (22, .iaload, 0, 0, 0), (23, .ifCond .ne 13, 0, 0, 0), (26, .aload_n 0, 0, 0, 0), (27, .iload_n 1, 0, 0, 0), (28, .iconst (-1), 0, 0, 0), (29, .iconst 0, 0, 0, 0), (30, .invokevirtual 187, 0, 0, 0), (33, .goto 10, 0, 0, 0), (36, .aload_n 0, 0, 0, 0), (37, .iconst 3, 0, 0, 0), (38, .iload_n 1, 0, 0, 0), (39, .iconst (-1), 0, 0, 0), (40, .invokevirtual 157, 0, 0, 0), (43, .return_, 0, 0, 0)]
/-- NeedMachineModel.answer()I -/
def zm_c101 : List (Nat × zm_I) := [(0, .aload_n 0, 0, 0, 0), (1, .aload_n 0, 0, 0, 0), (2, .getfield 84, 5, 12, 0), (5, .ifCond .ne 7, 0, 0, 0), (8, .iconst 1, 0, 0, 0), (9, .goto 4, 0, 0, 0), (12, .iconst 0, 0, 0, 0), (13, .putfield 216, 5, 43, 0), (16, .aload_n 0, 0, 0, 0), (17, .getfield 216, 5, 43, 0), (20, .ifCond .ne 5, 0, 0, 0), (23, .iconst 0, 0, 0, 0), (24, .ireturn, 0, 0, 0), (25, .aload_n 0, 0, 0, 0), (26, .aload_n 0, 0, 0, 0), (27, .getfield 144, 5, 37, 0), (30, .putfield 220, 5, 40, 0), (33, .aload_n 0, 0, 0, 0), (34, .aload_n 0, 0, 0, 0), (35, .getfield 147, 5, 38, 0), (38, .putfield 223, 5, 41, 0), (41, .aload_n 0, 0, 0, 0), (42, .aload_n 0, 0, 0, 0), (43, .getfield 150, 5, 39, 0), (46, .putfield 226, 5, 42, 0), (49, .aload_n 0, 0, 0, 0), (50, .getfield 220, 5, 40, 0), (53, .ireturn, 0, 0, 0)]
/-- NeedMachineModel.number()I -/
def zm_c102 : List (Nat × zm_I) := [(0, .aload_n 0, 0, 0, 0), (1, .aload_n 0, 0, 0, 0), (2, .getfield 216, 5, 43, 0), (5, .ifCond .ne 7, 0, 0, 0), (8, .iconst 1, 0, 0, 0), (9, .goto 15, 0, 0, 0), (12, .aload_n 0, 0, 0, 0), (13, .getfield 220, 5, 40, 0), (16, .ifCond .eq 7, 0, 0, 0), (19, .iconst 2, 0, 0, 0), (20, .goto 4, 0, 0, 0), (23, .iconst 0, 0, 0, 0), (24, .putfield 84, 5, 12, 0), (27, .aload_n 0, 0, 0, 0), (28, .getfield 84, 5, 12, 0), (31, .ifCond .le 7, 0, 0, 0), (34, .iconst 0, 0, 0, 0), (35, .goto 7, 0, 0, 0), (38, .aload_n 0, 0, 0, 0), (39, .getfield 223, 5, 41, 0), (42, .ireturn, 0, 0, 0)]
/-- NeedMachineModel.head()I -/
def zm_c103 : List (Nat × zm_I) := [(0, .aload_n 0, 0, 0, 0), (1, .iconst 1, 0, 0, 0), (2, .invokevirtual 238, 0, 0, 0), (5, .ifCond .eq 10, 0, 0, 0), (8, .aload_n 0, 0, 0, 0), (9, .getfield 147, 5, 38, 0), (12, .goto 4, 0, 0, 0), (15, .iconst 0, 0, 0, 0), (16, .ireturn, 0, 0, 0)]
/-- NeedMachineModel.side(Z)Z -/
def zm_c104 : List (Nat × zm_I) := [(0, .aload_n 0, 0, 0, 0), (1, .aload_n 0, 0, 0, 0), (2, .getfield 216, 5, 43, 0), (5, .ifCond .eq 11, 0, 0, 0), (8, .aload_n 0, 0, 0, 0), (9, .getfield 220, 5, 40, 0), (12, .iconst 1, 0, 0, 0), (13, .if_icmp .ne 7, 0, 0, 0), (16, .iconst 2, 0, 0, 0), (17, .goto 16, 0, 0, 0), (20, .aload_n 0, 0, 0, 0), (21, .getfield 220, 5, 40, 0), (24, .iconst 2, 0, 0, 0), (25, .if_icmp .eq 7, 0, 0, 0), (28, .iconst 5, 0, 0, 0), (29, .goto 4, 0, 0, 0), (32, .iconst 0, 0, 0, 0), (33, .putfield 84, 5, 12, 0), (36, .aload_n 0, 0, 0, 0), (37, .getfield 84, 5, 12, 0), (40, .ifCond .ne 165, 0, 0, 0), (43, .iload_n 1, 0, 0, 0), (44, .ifCond .eq 10, 0, 0, 0), (47, .aload_n 0, 0, 0, 0), (48, .getfield 223, 5, 41, 0), (51, .goto 7, 0, 0, 0), (54, .aload_n 0, 0, 0, 0), (55, .getfield 226, 5, 42, 0), (58, .istore_n 2, 0, 0, 0), (59, .aload_n 0, 0, 0, 0), (60, .getfield 45, 5, 15, 0), (63, .iload_n 2, 0, 0, 0), (64, .iaload, 0, 0, 0), (65, .iconst 2, 0, 0, 0), (66, .if_icmp .ne 16, 0, 0, 0), (69, .aload_n 0, 0, 0, 0), (70, .dup, 0, 0, 0), (71, .getfield 161, 5, 36, 0), (74, .iconst 1, 0, 0, 0), (75, .iadd, 0, 0, 0), (76, .putfield 161, 5, 36, 0), (79, .goto 73, 0, 0, 0), (82, .aload_n 0, 0, 0, 0), (83, .dup, 0, 0, 0), (84, .getfield 168, 5, 35, 0), (87, .iconst 1, 0, 0, 0), (88, .iadd, 0, 0, 0), (89, .putfield 168, 5, 35, 0), (92, .aload_n 0, 0, 0, 0), (93, .getfield 45, 5, 15, 0), (96, .iload_n 2, 0, 0, 0), (97, .iconst 1, 0, 0, 0), (98, .iastore, 0, 0, 0), (99, .aload_n 0, 0, 0, 0), (100, .aload_n 0, 0, 0, 0), (101, .getfield 39, 5, 13, 0), (104, .iload_n 2, 0, 0, 0), (105, .iaload, 0, 0, 0), (106, .aload_n 0, 0, 0, 0), (107, .getfield 42, 5, 14, 0), (110, .iload_n 2, 0, 0, 0), (111, .iaload, 0, 0, 0), (112, .invokevirtual 232, 0, 0, 0), (115, .aload_n 0, 0, 0, 0), (116, .getfield 45, 5, 15, 0), (119, .iload_n 2, 0, 0, 0), (120, .iconst 2, 0, 0, 0), (121, .iastore, 0, 0, 0), (122, .aload_n 0, 0, 0, 0), (123, .getfield 48, 5, 16, 0), (126, .iload_n 2, 0, 0, 0), (127, .aload_n 0, 0, 0, 0), (128, .getfield 144, 5, 37, 0), (131, .iastore, 0, 0, 0), (132, .aload_n 0, 0, 0, 0), (133, .getfield 51, 5, 17, 0), (136, .iload_n 2, 0, 0, 0), (137, .aload_n 0, 0, 0, 0), (138, .getfield 147, 5, 38, 0), (141, .iastore, 0, 0, 0), (142, .aload_n 0, 0, 0, 0), (143, .getfield 54, 5, 18, 0), (146, .iload_n 2, 0, 0, 0), (147, .aload_n 0, 0, 0, 0), (148, .getfield 150, 5, 39, 0), (151, .iastore, 0, 0, 0), (152, .aload_n 0, 0, 0, 0), (153, .aload_n 0, 0, 0, 0), (154, .getfield 48, 5, 16, 0), (157, .iload_n 2, 0, 0, 0), (158, .iaload, 0, 0, 0), (159, .putfield 144, 5, 37, 0), (162, .aload_n 0, 0, 0, 0), (163, .aload_n 0, 0, 0, 0), (164, .getfield 51, 5, 17, 0), (167, .iload_n 2, 0, 0, 0), (168, .iaload, 0, 0, 0), (169, .putfield 147, 5, 38, 0), (172, .aload_n 0, 0, 0, 0), (173, .aload_n 0, 0, 0, 0), (174, .getfield 54, 5, 18, 0), (177, .iload_n 2, 0, 0, 0), (178, .iaload, 0, 0, 0), (179, .putfield 150, 5, 39, 0), (182, .aload_n 0, 0, 0, 0), (183, .getfield 84, 5, 12, 0), (186, .ifCond .ne 19, 0, 0, 0), (189, .iload_n 1, 0, 0, 0), (190, .ifCond .eq 15, 0, 0, 0), (193, .aload_n 0, 0, 0, 0), (194, .getfield 144, 5, 37, 0), (197, .ifCond .eq 8, 0, 0, 0), (200, .aload_n 0, 0, 0, 0), (201, .iconst 5, 0, 0, 0), (202, .putfield 84, 5, 12, 0), (205, .aload_n 0, 0, 0, 0), (206, .getfield 84, 5, 12, 0), (209, .ifCond .ne 5, 0, 0, 0), (212, .iconst 1, 0, 0, 0), (213, .ireturn, 0, 0, 0), (214, .aload_n 0, 0, 0, 0), (215, .dup, 0, 0, 0), (216, .getfield 84, 5, 12, 0), (219, .iconst 1, 0, 0, 0), (220, .isub, 0, 0, 0), (221, .putfield 84, 5, 12, 0), (224, .aload_n 0, 0, 0, 0), (225, .iconst 0, 0, 0, 0), (226, .putfield 216, 5, 43, 0), (229, .iconst 0, 0, 0, 0), (230, .ireturn, 0, 0, 0)]
/-- NeedMachineModel.tail()I -/
def zm_c105 : List (Nat × zm_I) := [(0, .aload_n 0, 0, 0, 0), (1, .iconst 0, 0, 0, 0), (2, .invokevirtual 238, 0, 0, 0), (5, .ifCond .eq 10, 0, 0, 0), (8, .aload_n 0, 0, 0, 0), (9, .invokevirtual 235, 0, 0, 0), (12, .goto 4, 0, 0, 0), (15, .iconst 0, 0, 0, 0), (16, .ireturn, 0, 0, 0)]
/-- NeedMachineModel.remove(I)V -/
def zm_c106 : List (Nat × zm_I) := [(0, .aload_n 0, 0, 0, 0), (1, .iload_n 1, 0, 0, 0), (2, .iconst 0, 0, 0, 0), (3, .iconst 5, 0, 0, 0), (4, .invokestatic 87, 0, 0, 0), (7, .invokevirtual 91, 0, 0, 0), (10, .ifCond .eq 4, 0, 0, 0), (13, .return_, 0, 0, 0), (14, .aload_n 0, 0, 0, 0), (15, .getfield 31, 5, 7, 0), (18, .iload_n 1, 0, 0, 0), (19, .baload, 0, 0, 0), (20, .ifCond .ne 8, 0, 0, 0), (23, .aload_n 0, 0, 0, 0), (24, .iconst 2, 0, 0, 0), (25, .putfield 84, 5, 12, 0), (28, .aload_n 0, 0, 0, 0), (29, .getfield 31, 5, 7, 0), (32, .iload_n 1, 0, 0, 0), (33, .iconst 0, 0, 0, 0), (34, .bastore, 0, 0, 0), (35, .return_, 0, 0, 0)]
/-- NeedMachineModel.count(I)I -/
def zm_c107 : List (Nat × zm_I) := [(0, .aload_n 0, 0, 0, 0), (1, .iconst 0, 0, 0, 0), (2, .putfield 84, 5, 12, 0), (5, .iconst 0, 0, 0, 0), (6, .istore_n 2, 0, 0, 0), (7, .iconst 0, 0, 0, 0), (8, .istore_n 3, 0, 0, 0), (9, .iload_n 3, 0, 0, 0), (10, .bipush 6, 0, 0, 0), (12, .if_icmp .ge 21, 0, 0, 0), (15, .aload_n 0, 0, 0, 0), (16, .getfield 31, 5, 7, 0), (19, .iload_n 3, 0, 0, 0), (20, .baload, 0, 0, 0), (21, .ifCond .eq 6, 0, 0, 0), (24, .iinc 2 1, 0, 0, 0), (27, .iinc 3 1, 0, 0, 0), (30, .goto (-21), 0, 0, 0), (33, .iload_n 1, 0, 0, 0), (34, .tableswitch 83 0 7 #[46, 51, 56, 58, 63, 68, 73, 78], 46, 0, 0), (80, .aload_n 0, 0, 0, 0), (81, .getfield 35, 5, 9, 0), (84, .ireturn, 0, 0, 0), (85, .aload_n 0, 0, 0, 0), (86, .getfield 95, 5, 8, 0), (89, .ireturn, 0, 0, 0), (90, .iload_n 2, 0, 0, 0), (91, .ireturn, 0, 0, 0), (92, .aload_n 0, 0, 0, 0), (93, .getfield 175, 5, 33, 0), (96, .ireturn, 0, 0, 0), (97, .aload_n 0, 0, 0, 0), (98, .getfield 178, 5, 34, 0), (101, .ireturn, 0, 0, 0), (102, .aload_n 0, 0, 0, 0), (103, .getfield 168, 5, 35, 0), (106, .ireturn, 0, 0, 0), (107, .aload_n 0, 0, 0, 0), (108, .getfield 161, 5, 36, 0), (111, .ireturn, 0, 0, 0), (112, .aload_n 0, 0, 0, 0), (113, .getfield 141, 5, 32, 0), (116, .ireturn, 0, 0, 0), (117, .iconst (-1), 0, 0, 0), (118, .ireturn, 0, 0, 0)]
def zm_cs : List (List (Nat × zm_I)) := [zm_c0, zm_c1, zm_c2, zm_c3, zm_c4, zm_c5, zm_c6, zm_c7, zm_c8, zm_c9, zm_c10, zm_c11, zm_c12, zm_c13, zm_c14, zm_c15, zm_c16, zm_c17, zm_c18, zm_c19, zm_c20, zm_c21, zm_c22, zm_c23, zm_c24, zm_c25, zm_c26, zm_c27, zm_c28, zm_c29, zm_c30, zm_c31, zm_c32, zm_c33, zm_c34, zm_c35, zm_c36, zm_c37, zm_c38, zm_c39, zm_c40, zm_c41, zm_c42, zm_c43, zm_c44, zm_c45, zm_c46, zm_c47, zm_c48, zm_c49, zm_c50, zm_c51, zm_c52, zm_c53, zm_c54, zm_c55, zm_c56, zm_c57, zm_c58, zm_c59, zm_c60, zm_c61, zm_c62, zm_c63, zm_c64, zm_c65, zm_c66, zm_c67, zm_c68, zm_c69, zm_c70, zm_c71, zm_c72, zm_c73, zm_c74, zm_c75, zm_c76, zm_c77, zm_c78, zm_c79, zm_c80, zm_c81, zm_c82, zm_c83, zm_c84, zm_c85, zm_c86, zm_c87, zm_c88, zm_c89, zm_c90, zm_c91, zm_c92, zm_c93, zm_c94, zm_c95, zm_c96, zm_c97, zm_c98, zm_c99, zm_c100, zm_c101, zm_c102, zm_c103, zm_c104, zm_c105, zm_c106, zm_c107]
def zm_lk (l : List (Nat × zm_I)) (pc : Nat) : Option zm_I := match l with
  | [] => none
  | q :: r => if Nat.beq q.1 pc = true then some q.2 else zm_lk r pc
def zm_cd (mi pc : Nat) : Option zm_I := zm_lk (zm_cs.getD mi []) pc
end
section
/-! A SMALL MACHINE: the instructions that the methods of this claim use, over a list of locals, a stack and a small heap: a list of cells (the first few are old ones, which are only read) and the number of slots made so far. Its addresses are places in that list; 'ad' turns them into the machine's. What is proved of it is carried to the machine by zm_J. -/
abbrev zm_E : Type := (Nat × vp_A) ⊕ (Nat × List Value)
abbrev zm_H : Type := List zm_E × Nat
abbrev zm_L : Type := List (Nat × Value)
def zm_sh (ad : Nat → Nat) (v : Value) : Value := match v with
  | .ref a => .ref (ad a)
  | .int x => .int x
  | .long x => .long x
  | .float x => .float x
  | .double x => .double x
  | .null => .null
  | .retAddr x => .retAddr x
theorem zm_sh_cat (ad : Nat → Nat) (v : Value) : (zm_sh ad v).category = v.category := by cases v <;> rfl
def zm_shL (ad : Nat → Nat) (lv : zm_L) : zm_L := lv.map (fun q => (q.1, zm_sh ad q.2))
def zm_isI (v : Value) : Bool := match v with | .int _ => true | _ => false
def zm_isL (v : Value) : Bool := match v with | .long _ => true | _ => false
def zm_isR (v : Value) : Bool := match v with | .ref _ => true | .null => true | _ => false
theorem zm_isR_rf (r : Option Nat) : zm_isR (va_rf r) = true := by cases r <;> rfl
theorem zm_isR_of {v : Value} (h : zm_isR v = true) : ∃ r : Option Nat, v = va_rf r := by
  cases v <;> first | (simp [zm_isR] at h; done) | exact ⟨none, rfl⟩ | exact ⟨some _, rfl⟩
theorem zm_isI_of {v : Value} (h : zm_isI v = true) : ∃ x : Int32, v = .int x := by
  cases v <;> first | (simp [zm_isI] at h; done) | exact ⟨_, rfl⟩
theorem zm_isL_of {v : Value} (h : zm_isL v = true) : ∃ x : Int64, v = .long x := by
  cases v <;> first | (simp [zm_isL] at h; done) | exact ⟨_, rfl⟩
theorem zm_cat_rf (r : Option Nat) : (va_rf r).category = 1 := by cases r <;> rfl
/-! the stack alone -/
def zm_ii (st : List Value) (f : Int32 → Int32 → Int32) : Option (List Value) := match st with
  | .int y :: .int x :: r => some (.int (f x y) :: r)
  | _ => none
def zm_ll (st : List Value) (f : Int64 → Int64 → Value) : Option (List Value) := match st with
  | .long y :: .long x :: r => some (f x y :: r)
  | _ => none
def zm_li (st : List Value) (f : Int64 → Int32 → Int64) : Option (List Value) := match st with
  | .int y :: .long x :: r => some (.long (f x y) :: r)
  | _ => none
def zm_i1 (st : List Value) (f : Int32 → Value) : Option (List Value) := match st with
  | .int x :: r => some (f x :: r)
  | _ => none
def zm_l1 (st : List Value) (f : Int64 → Value) : Option (List Value) := match st with
  | .long x :: r => some (f x :: r)
  | _ => none
theorem zm_ii_of {st st' : List Value} {f : Int32 → Int32 → Int32} (h : zm_ii st f = some st') : ∃ x y r, st = .int y :: .int x :: r ∧ st' = .int (f x y) :: r := by
  unfold zm_ii at h
  split at h
  · exact ⟨_, _, _, rfl, (Option.some.inj h).symm⟩
  · cases h
theorem zm_ll_of {st st' : List Value} {f : Int64 → Int64 → Value} (h : zm_ll st f = some st') : ∃ x y r, st = .long y :: .long x :: r ∧ st' = f x y :: r := by
  unfold zm_ll at h
  split at h
  · exact ⟨_, _, _, rfl, (Option.some.inj h).symm⟩
  · cases h
theorem zm_li_of {st st' : List Value} {f : Int64 → Int32 → Int64} (h : zm_li st f = some st') : ∃ x y r, st = .int y :: .long x :: r ∧ st' = .long (f x y) :: r := by
  unfold zm_li at h
  split at h
  · exact ⟨_, _, _, rfl, (Option.some.inj h).symm⟩
  · cases h
theorem zm_i1_of {st st' : List Value} {f : Int32 → Value} (h : zm_i1 st f = some st') : ∃ x r, st = .int x :: r ∧ st' = f x :: r := by
  unfold zm_i1 at h
  split at h
  · exact ⟨_, _, rfl, (Option.some.inj h).symm⟩
  · cases h
theorem zm_l1_of {st st' : List Value} {f : Int64 → Value} (h : zm_l1 st f = some st') : ∃ x r, st = .long x :: r ∧ st' = f x :: r := by
  unfold zm_l1 at h
  split at h
  · exact ⟨_, _, rfl, (Option.some.inj h).symm⟩
  · cases h
def zm_div (st : List Value) (f : Int32 → Int32 → Int32) : Option (List Value) := match st with
  | .int y :: .int x :: r => if y = 0 then none else some (.int (f x y) :: r)
  | _ => none
theorem zm_div_of {st st' : List Value} {f : Int32 → Int32 → Int32} (h : zm_div st f = some st') : ∃ x y r, st = .int y :: .int x :: r ∧ ¬ y = 0 ∧ st' = .int (f x y) :: r := by
  unfold zm_div at h
  split at h
  · split at h
    · cases h
    · rename_i hy
      exact ⟨_, _, _, rfl, hy, (Option.some.inj h).symm⟩
  · cases h
/-- the top, of one word -/
def zm_d1 (st : List Value) (f : Value → List Value → List Value) : Option (List Value) := match st with
  | a :: r => if a.category = 1 then some (f a r) else none
  | _ => none
theorem zm_d1_of {st st' : List Value} {f : Value → List Value → List Value} (h : zm_d1 st f = some st') : ∃ a r, st = a :: r ∧ a.category = 1 ∧ st' = f a r := by
  unfold zm_d1 at h
  split at h
  · split at h
    · rename_i hy
      exact ⟨_, _, rfl, hy, (Option.some.inj h).symm⟩
    · cases h
  · cases h
def zm_d2 (st : List Value) (f : Value → Value → List Value → List Value) : Option (List Value) := match st with
  | a :: b :: r => if a.category = 1 ∧ b.category = 1 then some (f a b r) else none
  | _ => none
theorem zm_d2_of {st st' : List Value} {f : Value → Value → List Value → List Value} (h : zm_d2 st f = some st') : ∃ a b r, st = a :: b :: r ∧ a.category = 1 ∧ b.category = 1 ∧ st' = f a b r := by
  unfold zm_d2 at h
  split at h
  · split at h
    · rename_i hy
      exact ⟨_, _, _, rfl, hy.1, hy.2, (Option.some.inj h).symm⟩
    · cases h
  · cases h
def zm_d3 (st : List Value) (f : Value → Value → Value → List Value → List Value) : Option (List Value) := match st with
  | a :: b :: d :: r => if a.category = 1 ∧ b.category = 1 ∧ d.category = 1 then some (f a b d r) else none
  | _ => none
theorem zm_d3_of {st st' : List Value} {f : Value → Value → Value → List Value → List Value} (h : zm_d3 st f = some st') : ∃ a b d r, st = a :: b :: d :: r ∧ a.category = 1 ∧ b.category = 1 ∧ d.category = 1 ∧ st' = f a b d r := by
  unfold zm_d3 at h
  split at h
  · split at h
    · rename_i hy
      exact ⟨_, _, _, _, rfl, hy.1, hy.2.1, hy.2.2, (Option.some.inj h).symm⟩
    · cases h
  · cases h
def zm_pure (i : Instr) (st : List Value) : Option (List Value) := match i with
  | .iconst n => some (.int (Int32.ofInt n) :: st)
  | .bipush n => some (.int (Int8.ofInt n).toInt32 :: st)
  | .sipush n => some (.int (Int16.ofInt n).toInt32 :: st)
  | .lconst n => some (.long (Int64.ofNat (n : Nat)) :: st)
  | .aconst_null => some (.null :: st)
  | .iadd => zm_ii st (fun x y => x + y)
  | .isub => zm_ii st (fun x y => x - y)
  | .imul => zm_ii st (fun x y => x * y)
  | .iand => zm_ii st (fun x y => x &&& y)
  | .ior => zm_ii st (fun x y => x ||| y)
  | .ixor => zm_ii st (fun x y => x ^^^ y)
  | .ishl => zm_ii st (fun x y => x <<< (y &&& 31))
  | .ishr => zm_ii st (fun x y => x >>> (y &&& 31))
  | .iushr => zm_ii st (fun x y => (x.toUInt32 >>> (y.toUInt32 &&& Int32.toUInt32 31)).toInt32)
  | .idiv => zm_div st (fun x y => x / y)
  | .irem => zm_div st (fun x y => x - x / y * y)
  | .ineg => zm_i1 st (fun x => .int (-x))
  | .ladd => zm_ll st (fun x y => .long (x + y))
  | .lsub => zm_ll st (fun x y => .long (x - y))
  | .land => zm_ll st (fun x y => .long (x &&& y))
  | .lor => zm_ll st (fun x y => .long (x ||| y))
  | .lcmp => zm_ll st (fun x y => .int (lg_cmp x y))
  | .lushr => zm_li st (fun x y => (x.toUInt64 >>> (y.toInt64.toUInt64 &&& Int64.toUInt64 63)).toInt64)
  | .lshl => zm_li st (fun x y => x <<< (y.toInt64 &&& 63))
  | .lshr => zm_li st (fun x y => x >>> (y.toInt64 &&& 63))
  | .i2l => zm_i1 st (fun x => .long x.toInt64)
  | .i2c => zm_i1 st (fun x => .int (x.toUInt32 % 65536).toInt32)
  | .i2b => zm_i1 st (fun x => .int x.toInt8.toInt32)
  | .l2i => zm_l1 st (fun x => .int x.toInt32)
  | .dup => zm_d1 st (fun a r => a :: a :: r)
  | .pop => zm_d1 st (fun _ r => r)
  | .dup_x1 => zm_d2 st (fun a b r => a :: b :: a :: r)
  | .dup2 => zm_d2 st (fun a b r => a :: b :: a :: b :: r)
  | .dup_x2 => zm_d3 st (fun a b d r => a :: b :: d :: a :: r)
  | _ => none
/-- how long an instruction is -/
def zm_len (i : Instr) : Nat := match i with
  | .bipush _ => 2
  | .sipush _ => 3
  | .iload _ => 2
  | .lload _ => 2
  | .aload _ => 2
  | .istore _ => 2
  | .lstore _ => 2
  | .astore _ => 2
  | .iinc _ _ => 3
  | .goto _ => 3
  | .ifCond _ _ => 3
  | .if_icmp _ _ => 3
  | .if_acmp _ _ => 3
  | .ifnull _ => 3
  | .ifnonnull _ => 3
  | .getfield _ => 3
  | .putfield _ => 3
  | .getstatic _ => 3
  | .new _ => 3
  | .newarray _ => 2
  | .anewarray _ => 3
  | .checkcast _ => 3
  | .instanceof _ => 3
  | .ldc _ => 2
  | .ldc2_w _ => 3
  | .invokestatic _ => 3
  | .invokespecial _ => 3
  | .invokevirtual _ => 3
  | _ => 1
section ZP
variable {p : Program} {l : Launch} {e : Env} {R : Room} {s : State} {m : MethodId} {args : Array Value} {below : List Frame} {meth : Method} {c : Code} {H : Heap} {locs : List Loc} {cells slots : Nat} {Q : State → Prop}
variable {cc : ByteArray} {pc : Nat} {ls : Array Slot}
set_option maxHeartbeats 4000000 in
theorem zm_pure_ok (ad : Nat → Nat) (hexec : p.tables.exec = Jvm.exec) (hb : c.code = cc) {i : Instr} {st st' : List Value} (h : zm_pure i st = some st') (hdg : decode cc pc = .ok (i, zm_len i))
    (k : W p l e R s m args below meth c H locs cells slots Q (F0 m (pc + zm_len i) ls (st'.map (zm_sh ad)))) : W p l e R s m args below meth c H locs cells slots Q (F0 m pc ls (st.map (zm_sh ad))) := by
  unfold zm_pure at h
  split at h
  · cases h; exact lv_iconst hexec hb hdg rfl k
  · cases h; exact lv_bipush hexec hb hdg rfl k
  · cases h; exact lv_sipush hexec hb hdg rfl k
  · cases h; exact lv_lconst hexec hb hdg rfl k
  · cases h; exact lv_null hexec hb hdg k
  · obtain ⟨x, y, r, rfl, rfl⟩ := zm_ii_of h; exact lv_iadd hexec hb hdg k
  · obtain ⟨x, y, r, rfl, rfl⟩ := zm_ii_of h; exact lv_isub hexec hb hdg k
  · obtain ⟨x, y, r, rfl, rfl⟩ := zm_ii_of h; exact lv_imul hexec hb hdg k
  · obtain ⟨x, y, r, rfl, rfl⟩ := zm_ii_of h; exact lv_iand hexec hb hdg k
  · obtain ⟨x, y, r, rfl, rfl⟩ := zm_ii_of h; exact lv_ior hexec hb hdg k
  · obtain ⟨x, y, r, rfl, rfl⟩ := zm_ii_of h; exact lv_ixor hexec hb hdg k
  · obtain ⟨x, y, r, rfl, rfl⟩ := zm_ii_of h; exact lv_ishl hexec hb hdg k
  · obtain ⟨x, y, r, rfl, rfl⟩ := zm_ii_of h; exact lv_ishr hexec hb hdg k
  · obtain ⟨x, y, r, rfl, rfl⟩ := zm_ii_of h; exact lv_iushr hexec hb hdg rfl k
  · obtain ⟨x, y, r, rfl, hne, rfl⟩ := zm_div_of h; exact lv_idiv hexec hb hdg hne k
  · obtain ⟨x, y, r, rfl, hne, rfl⟩ := zm_div_of h; exact lv_irem hexec hb hdg hne k
  · obtain ⟨x, r, rfl, rfl⟩ := zm_i1_of h; exact lv_ineg hexec hb hdg k
  · obtain ⟨x, y, r, rfl, rfl⟩ := zm_ll_of h; exact lv_ladd hexec hb hdg k
  · obtain ⟨x, y, r, rfl, rfl⟩ := zm_ll_of h; exact lv_lsub hexec hb hdg k
  · obtain ⟨x, y, r, rfl, rfl⟩ := zm_ll_of h; exact lv_land hexec hb hdg k
  · obtain ⟨x, y, r, rfl, rfl⟩ := zm_ll_of h; exact lv_lor hexec hb hdg k
  · obtain ⟨x, y, r, rfl, rfl⟩ := zm_ll_of h; exact W.lcmp hexec hb hdg k
  · obtain ⟨x, y, r, rfl, rfl⟩ := zm_li_of h; exact lv_lushr hexec hb hdg rfl k
  · obtain ⟨x, y, r, rfl, rfl⟩ := zm_li_of h; exact lv_lshl hexec hb hdg rfl k
  · obtain ⟨x, y, r, rfl, rfl⟩ := zm_li_of h; exact lv_lshr hexec hb hdg rfl k
  · obtain ⟨x, r, rfl, rfl⟩ := zm_i1_of h; exact lv_i2l hexec hb hdg rfl k
  · obtain ⟨x, r, rfl, rfl⟩ := zm_i1_of h; exact lv_i2c hexec hb hdg rfl k
  · obtain ⟨x, r, rfl, rfl⟩ := zm_i1_of h; exact lv_i2b hexec hb hdg rfl k
  · obtain ⟨x, r, rfl, rfl⟩ := zm_l1_of h; exact lv_l2i hexec hb hdg rfl k
  · obtain ⟨a, r, rfl, ha, rfl⟩ := zm_d1_of h; exact lv_dup hexec hb hdg (by rw [zm_sh_cat]; exact ha) k
  · obtain ⟨a, r, rfl, ha, rfl⟩ := zm_d1_of h; exact lv_pop hexec hb hdg (by rw [zm_sh_cat]; exact ha) k
  · obtain ⟨a, b, r, rfl, ha, hb', rfl⟩ := zm_d2_of h; exact lv_dup_x1 hexec hb hdg (by rw [zm_sh_cat]; exact ha) (by rw [zm_sh_cat]; exact hb') k
  · obtain ⟨a, b, r, rfl, ha, hb', rfl⟩ := zm_d2_of h; exact lv_dup2_11 hexec hb hdg (by rw [zm_sh_cat]; exact ha) (by rw [zm_sh_cat]; exact hb') k
  · obtain ⟨a, b, d, r, rfl, ha, hb', hd', rfl⟩ := zm_d3_of h; exact lv_dup_x2 hexec hb hdg (by rw [zm_sh_cat]; exact ha) (by rw [zm_sh_cat]; exact hb') (by rw [zm_sh_cat]; exact hd') k
  · cases h
end ZP
/-! locals -/
def zm_get (lv : zm_L) (i : Nat) : Option Value := match lv with
  | [] => none
  | q :: r => if q.1 = i then some q.2 else zm_get r i
theorem zm_get_mem {lv : zm_L} {i : Nat} {v : Value} (h : zm_get lv i = some v) : (i, v) ∈ lv := by
  induction lv with
  | nil => cases h
  | cons q r ih =>
    unfold zm_get at h
    split at h
    · rename_i hq
      obtain ⟨a, b⟩ := q
      cases Option.some.inj h
      cases hq
      exact List.mem_cons_self
    · exact List.mem_cons_of_mem _ (ih h)
theorem zm_get_sh (ad : Nat → Nat) {lv : zm_L} {i : Nat} {v : Value} (h : zm_get lv i = some v) : zm_get (zm_shL ad lv) i = some (zm_sh ad v) := by
  induction lv with
  | nil => cases h
  | cons q r ih =>
    show (if q.1 = i then some (zm_sh ad q.2) else zm_get (zm_shL ad r) i) = _
    unfold zm_get at h
    split at h
    · rename_i hq
      rw [if_pos hq]
      cases Option.some.inj h
      rfl
    · rename_i hq
      rw [if_neg hq]
      exact ih h
theorem zm_get_ok {ls : Array Slot} {n : Nat} {lv : zm_L} {i : Nat} {v : Value} (hl : lv_has ls n lv) (h : zm_get lv i = some v) : ls[i]? = some (.val v) := hl.2.2 _ (zm_get_mem h)
/-- which local an instruction reads, and what it wants there: 0 an int, 1 a long, 2 a reference -/
def zm_ldi (i : Instr) : Option (Nat × Nat) := match i with
  | .iload_n n => some (0, (n : Nat))
  | .iload n => some (0, n)
  | .lload_n n => some (1, (n : Nat))
  | .lload n => some (1, n)
  | .aload_n n => some (2, (n : Nat))
  | .aload n => some (2, n)
  | _ => none
def zm_okv (k : Nat) (v : Value) : Bool := match k with
  | 0 => zm_isI v
  | 1 => zm_isL v
  | _ => zm_isR v
def zm_load (i : Instr) (lv : zm_L) : Option Value := match zm_ldi i with
  | some q => match zm_get lv q.2 with
    | some v => if zm_okv q.1 v = true then some v else none
    | none => none
  | none => none
theorem zm_load_of {i : Instr} {lv : zm_L} {v : Value} (h : zm_load i lv = some v) : ∃ k n, zm_ldi i = some (k, n) ∧ zm_get lv n = some v ∧ zm_okv k v = true := by
  unfold zm_load at h
  split at h
  · rename_i q hq
    split at h
    · rename_i w hw
      split at h
      · rename_i hk
        cases Option.some.inj h
        exact ⟨q.1, q.2, hq, hw, hk⟩
      · cases h
    · cases h
  · cases h
section ZL
variable {p : Program} {l : Launch} {e : Env} {R : Room} {s : State} {m : MethodId} {args : Array Value} {below : List Frame} {meth : Method} {c : Code} {H : Heap} {locs : List Loc} {cells slots : Nat} {Q : State → Prop}
variable {cc : ByteArray} {pc nL : Nat} {ls : Array Slot}
set_option maxHeartbeats 1000000 in
theorem zm_load_ok (ad : Nat → Nat) (hexec : p.tables.exec = Jvm.exec) (hb : c.code = cc) {i : Instr} {lv : zm_L} {st : List Value} {v : Value} (hl : lv_has ls nL (zm_shL ad lv)) (h : zm_load i lv = some v) (hdg : decode cc pc = .ok (i, zm_len i))
    (k : W p l e R s m args below meth c H locs cells slots Q (F0 m (pc + zm_len i) ls ((v :: st).map (zm_sh ad)))) : W p l e R s m args below meth c H locs cells slots Q (F0 m pc ls (st.map (zm_sh ad))) := by
  obtain ⟨kd, n, h1, h2, h3⟩ := zm_load_of h
  have h2 := zm_get_ok hl (zm_get_sh ad h2)
  unfold zm_ldi at h1
  split at h1
  · cases h1; obtain ⟨x, rfl⟩ := zm_isI_of h3; exact lv_iload_n hexec hb hdg rfl h2 k
  · cases h1; obtain ⟨x, rfl⟩ := zm_isI_of h3; exact lv_iload hexec hb hdg h2 k
  · cases h1; obtain ⟨x, rfl⟩ := zm_isL_of h3; exact lv_lload_n hexec hb hdg rfl h2 k
  · cases h1; obtain ⟨x, rfl⟩ := zm_isL_of h3; exact lv_lload hexec hb hdg h2 k
  · cases h1
    obtain ⟨r, rfl⟩ := zm_isR_of h3
    cases r with
    | none => exact lv_aload_nN hexec hb hdg rfl h2 k
    | some x => exact lv_aload_n hexec hb hdg rfl h2 k
  · cases h1
    obtain ⟨r, rfl⟩ := zm_isR_of h3
    cases r with
    | none => exact lv_aloadN hexec hb hdg h2 k
    | some x => exact lv_aload hexec hb hdg h2 k
  · cases h1
end ZL
def zm_sti (i : Instr) : Option (Nat × Nat) := match i with
  | .istore_n n => some (0, (n : Nat))
  | .istore n => some (0, n)
  | .lstore_n n => some (1, (n : Nat))
  | .lstore n => some (1, n)
  | .astore_n n => some (2, (n : Nat))
  | .astore n => some (2, n)
  | _ => none
def zm_set1 (lv : zm_L) (i : Nat) (v : Value) : zm_L := (i, v) :: lv.filter (fun q => !(q.1 == i) && !(q.1 + 1 == i && q.2.category == 2))
def zm_set2 (lv : zm_L) (i : Nat) (v : Value) : zm_L := (i, v) :: lv.filter (fun q => !(q.1 == i) && (!(q.1 == i + 1) && !(q.1 + 1 == i && q.2.category == 2)))
theorem zm_set1_sh (ad : Nat → Nat) (lv : zm_L) (i : Nat) (v : Value) : zm_shL ad (zm_set1 lv i v) = zm_set1 (zm_shL ad lv) i (zm_sh ad v) := by
  unfold zm_shL zm_set1
  rw [List.map_cons, List.filter_map]
  simp only [Function.comp_def, zm_sh_cat]
theorem zm_set2_sh (ad : Nat → Nat) (lv : zm_L) (i : Nat) (v : Value) : zm_shL ad (zm_set2 lv i v) = zm_set2 (zm_shL ad lv) i (zm_sh ad v) := by
  unfold zm_shL zm_set2
  rw [List.map_cons, List.filter_map]
  simp only [Function.comp_def, zm_sh_cat]
def zm_stor (nL : Nat) (i : Instr) (lv : zm_L) (st : List Value) : Option (zm_L × List Value) := match zm_sti i with
  | some q => match st with
    | v :: r => if zm_okv q.1 v = true ∧ q.2 + 1 < nL + (if q.1 = 1 then 0 else 1) then some (if q.1 = 1 then zm_set2 lv q.2 v else zm_set1 lv q.2 v, r) else none
    | [] => none
  | none => none
theorem zm_stor_of {nL : Nat} {i : Instr} {lv lv' : zm_L} {st st' : List Value} (h : zm_stor nL i lv st = some (lv', st')) : ∃ k n v, zm_sti i = some (k, n) ∧ st = v :: st' ∧ zm_okv k v = true ∧ n + 1 < nL + (if k = 1 then 0 else 1) ∧ lv' = (if k = 1 then zm_set2 lv n v else zm_set1 lv n v) := by
  unfold zm_stor at h
  split at h
  · rename_i q hq
    split at h
    · rename_i v r
      by_cases hk : zm_okv q.1 v = true ∧ q.2 + 1 < nL + (if q.1 = 1 then 0 else 1)
      · rw [if_pos hk] at h
        have e := Option.some.inj h
        cases e
        exact ⟨q.1, q.2, v, hq, rfl, hk.1, hk.2, rfl⟩
      · rw [if_neg hk] at h
        cases h
    · cases h
  · cases h
section ZS
variable {p : Program} {l : Launch} {e : Env} {R : Room} {s : State} {m : MethodId} {args : Array Value} {below : List Frame} {meth : Method} {c : Code} {H : Heap} {locs : List Loc} {cells slots : Nat} {Q : State → Prop}
variable {cc : ByteArray} {pc nL : Nat} {ls : Array Slot}
set_option maxHeartbeats 1000000 in
theorem zm_stor_ok (ad : Nat → Nat) (hexec : p.tables.exec = Jvm.exec) (hb : c.code = cc) {i : Instr} {lv lv' : zm_L} {st st' : List Value} (hl : lv_has ls nL (zm_shL ad lv)) (h : zm_stor nL i lv st = some (lv', st')) (hdg : decode cc pc = .ok (i, zm_len i))
    (kk : ∀ ls' : Array Slot, lv_has ls' nL (zm_shL ad lv') → W p l e R s m args below meth c H locs cells slots Q (F0 m (pc + zm_len i) ls' (st'.map (zm_sh ad)))) : W p l e R s m args below meth c H locs cells slots Q (F0 m pc ls (st.map (zm_sh ad))) := by
  obtain ⟨kd, n, v, h1, rfl, h3, h4, h5⟩ := zm_stor_of h
  unfold zm_sti at h1
  split at h1
  · cases h1; obtain ⟨x, rfl⟩ := zm_isI_of h3; exact lv_istore_n hexec hb hdg rfl hl (Nat.lt_of_succ_lt_succ h4) ((zm_set1_sh ad lv _ _).symm.trans (congrArg (zm_shL ad) h5.symm)) kk
  · cases h1; obtain ⟨x, rfl⟩ := zm_isI_of h3; exact lv_istore hexec hb hdg hl (Nat.lt_of_succ_lt_succ h4) ((zm_set1_sh ad lv _ _).symm.trans (congrArg (zm_shL ad) h5.symm)) kk
  · cases h1; obtain ⟨x, rfl⟩ := zm_isL_of h3; exact lv_lstore_n hexec hb hdg rfl hl h4 ((zm_set2_sh ad lv _ _).symm.trans (congrArg (zm_shL ad) h5.symm)) kk
  · cases h1; obtain ⟨x, rfl⟩ := zm_isL_of h3; exact lv_lstore hexec hb hdg hl h4 ((zm_set2_sh ad lv _ _).symm.trans (congrArg (zm_shL ad) h5.symm)) kk
  · cases h1
    obtain ⟨r, rfl⟩ := zm_isR_of h3
    cases r with
    | none => exact lv_astore_nN hexec hb hdg rfl hl (Nat.lt_of_succ_lt_succ h4) ((zm_set1_sh ad lv _ _).symm.trans (congrArg (zm_shL ad) h5.symm)) kk
    | some x => exact lv_astore_n hexec hb hdg rfl hl (Nat.lt_of_succ_lt_succ h4) ((zm_set1_sh ad lv _ _).symm.trans (congrArg (zm_shL ad) h5.symm)) kk
  · cases h1
    obtain ⟨r, rfl⟩ := zm_isR_of h3
    cases r with
    | none => exact lv_astoreN hexec hb hdg hl (Nat.lt_of_succ_lt_succ h4) ((zm_set1_sh ad lv _ _).symm.trans (congrArg (zm_shL ad) h5.symm)) kk
    | some x => exact lv_astore hexec hb hdg hl (Nat.lt_of_succ_lt_succ h4) ((zm_set1_sh ad lv _ _).symm.trans (congrArg (zm_shL ad) h5.symm)) kk
  · cases h1
end ZS
/-! iinc -/
def zm_inc (nL : Nat) (i : Instr) (lv : zm_L) : Option zm_L := match i with
  | .iinc j n => match zm_get lv j with
    | some (.int x) => if j < nL then some (zm_set1 lv j (.int (x + Int32.ofInt n))) else none
    | _ => none
  | _ => none
theorem zm_inc_of {nL : Nat} {i : Instr} {lv lv' : zm_L} (h : zm_inc nL i lv = some lv') : ∃ j n x, i = .iinc j n ∧ zm_get lv j = some (.int x) ∧ j < nL ∧ lv' = zm_set1 lv j (.int (x + Int32.ofInt n)) := by
  unfold zm_inc at h
  split at h
  · split at h
    · rename_i x hx
      split at h
      · rename_i hj
        exact ⟨_, _, x, rfl, hx, hj, (Option.some.inj h).symm⟩
      · cases h
    · cases h
  · cases h
section ZC
variable {p : Program} {l : Launch} {e : Env} {R : Room} {s : State} {m : MethodId} {args : Array Value} {below : List Frame} {meth : Method} {c : Code} {H : Heap} {locs : List Loc} {cells slots : Nat} {Q : State → Prop}
variable {cc : ByteArray} {pc nL : Nat} {ls : Array Slot}
theorem zm_inc_ok (ad : Nat → Nat) (hexec : p.tables.exec = Jvm.exec) (hb : c.code = cc) {i : Instr} {lv lv' : zm_L} {st : List Value} (hl : lv_has ls nL (zm_shL ad lv)) (h : zm_inc nL i lv = some lv') (hdg : decode cc pc = .ok (i, zm_len i))
    (kk : ∀ ls' : Array Slot, lv_has ls' nL (zm_shL ad lv') → W p l e R s m args below meth c H locs cells slots Q (F0 m (pc + zm_len i) ls' st)) : W p l e R s m args below meth c H locs cells slots Q (F0 m pc ls st) := by
  obtain ⟨j, n, x, rfl, h2, h3, h4⟩ := zm_inc_of h
  obtain ⟨k, hk⟩ := List.getElem?_of_mem (zm_get_mem (zm_get_sh ad h2))
  exact lv_iinc hexec hb hdg hl hk rfl h3 ((zm_set1_sh ad lv _ _).symm.trans (congrArg (zm_shL ad) h4.symm)) kk
end ZC
/-! branches -/
def zm_tgt (pc : Nat) (o : Int) : Option Nat := if 0 ≤ (pc : Int) + o then some ((pc : Int) + o).toNat else none
theorem zm_tgt_of {pc t : Nat} {o : Int} (h : zm_tgt pc o = some t) : (pc : Int) + o = (t : Int) := by
  unfold zm_tgt at h
  split at h
  · cases Option.some.inj h
    omega
  · cases h
def zm_b1 (st : List Value) (f : Int32 → Nat) : Option (Nat × List Value) := match st with
  | .int x :: r => some (f x, r)
  | _ => none
def zm_b2 (st : List Value) (f : Int32 → Int32 → Nat) : Option (Nat × List Value) := match st with
  | .int y :: .int x :: r => some (f x y, r)
  | _ => none
def zm_bn (st : List Value) (a b : Nat) : Option (Nat × List Value) := match st with
  | .null :: r => some (a, r)
  | .ref _ :: r => some (b, r)
  | _ => none
/-- two references: old cells are told apart from new ones alone -/
def zm_ba (no : Nat) (st : List Value) (a b : Nat) : Option (Nat × List Value) := match st with
  | .ref y :: .ref x :: r => if x = y then some (a, r) else if no ≤ x ∨ no ≤ y then some (b, r) else none
  | .null :: .null :: r => some (a, r)
  | .null :: .ref _ :: r => some (b, r)
  | .ref _ :: .null :: r => some (b, r)
  | _ => none
def zm_br0 (no : Nat) (i : Instr) (t pc : Nat) (st : List Value) : Option (Nat × List Value) := match i with
  | .goto _ => some (t, st)
  | .ifCond .eq _ => zm_b1 st (fun x => if x = 0 then t else pc + 3)
  | .ifCond .ne _ => zm_b1 st (fun x => if x = 0 then pc + 3 else t)
  | .ifCond .lt _ => zm_b1 st (fun x => if x < 0 then t else pc + 3)
  | .ifCond .ge _ => zm_b1 st (fun x => if 0 ≤ x then t else pc + 3)
  | .ifCond .gt _ => zm_b1 st (fun x => if 0 < x then t else pc + 3)
  | .ifCond .le _ => zm_b1 st (fun x => if x ≤ 0 then t else pc + 3)
  | .if_icmp .eq _ => zm_b2 st (fun x y => if x = y then t else pc + 3)
  | .if_icmp .ne _ => zm_b2 st (fun x y => if x = y then pc + 3 else t)
  | .if_icmp .lt _ => zm_b2 st (fun x y => if x < y then t else pc + 3)
  | .if_icmp .ge _ => zm_b2 st (fun x y => if y ≤ x then t else pc + 3)
  | .if_icmp .gt _ => zm_b2 st (fun x y => if y < x then t else pc + 3)
  | .if_icmp .le _ => zm_b2 st (fun x y => if x ≤ y then t else pc + 3)
  | .ifnull _ => zm_bn st t (pc + 3)
  | .ifnonnull _ => zm_bn st (pc + 3) t
  | .if_acmp .eq _ => zm_ba no st t (pc + 3)
  | .if_acmp .ne _ => zm_ba no st (pc + 3) t
  | _ => none
theorem zm_b1_of {st st' : List Value} {f : Int32 → Nat} {q : Nat} (h : zm_b1 st f = some (q, st')) : ∃ x, st = .int x :: st' ∧ q = f x := by
  unfold zm_b1 at h
  split at h
  · cases Option.some.inj h; exact ⟨_, rfl, rfl⟩
  · cases h
theorem zm_b2_of {st st' : List Value} {f : Int32 → Int32 → Nat} {q : Nat} (h : zm_b2 st f = some (q, st')) : ∃ x y, st = .int y :: .int x :: st' ∧ q = f x y := by
  unfold zm_b2 at h
  split at h
  · cases Option.some.inj h; exact ⟨_, _, rfl, rfl⟩
  · cases h
theorem zm_bn_of {st st' : List Value} {a b q : Nat} (h : zm_bn st a b = some (q, st')) : (st = .null :: st' ∧ q = a) ∨ ∃ x, st = .ref x :: st' ∧ q = b := by
  unfold zm_bn at h
  split at h
  · cases Option.some.inj h; exact Or.inl ⟨rfl, rfl⟩
  · cases Option.some.inj h; exact Or.inr ⟨_, rfl, rfl⟩
  · cases h
def zm_inj (no : Nat) (ad : Nat → Nat) : Prop := ∀ x y, x ≠ y → (no ≤ x ∨ no ≤ y) → ad x ≠ ad y
theorem zm_ba_of {no : Nat} {ad : Nat → Nat} (hi : zm_inj no ad) {st st' : List Value} {a b q : Nat} (h : zm_ba no st a b = some (q, st')) : ∃ rx ry : Option Nat, st.map (zm_sh ad) = va_rf ry :: va_rf rx :: st'.map (zm_sh ad) ∧ q = if rx = ry then a else b := by
  unfold zm_ba at h
  split at h
  · rename_i y x r
    split at h
    · rename_i hxy
      subst hxy
      cases Option.some.inj h
      exact ⟨some (ad x), some (ad x), rfl, (if_pos rfl).symm⟩
    · rename_i hxy
      split at h
      · rename_i ho
        cases Option.some.inj h
        exact ⟨some (ad x), some (ad y), rfl, (if_neg fun z => hi x y hxy ho (Option.some.inj z)).symm⟩
      · cases h
  · cases Option.some.inj h; exact ⟨none, none, rfl, (if_pos rfl).symm⟩
  · rename_i x r; cases Option.some.inj h; exact ⟨some (ad x), none, rfl, (if_neg fun z => by cases z).symm⟩
  · rename_i x r; cases Option.some.inj h; exact ⟨none, some (ad x), rfl, (if_neg fun z => by cases z).symm⟩
  · cases h
/-- the offset of a jump -/
def zm_off (i : Instr) : Option Int := match i with
  | .goto o => some o
  | .ifCond _ o => some o
  | .if_icmp _ o => some o
  | .if_acmp _ o => some o
  | .ifnull o => some o
  | .ifnonnull o => some o
  | _ => none
def zm_toff (dflt lo hi : Int) (offs : Array Int) (x : Int32) : Option Int := if x.toInt < lo ∨ hi < x.toInt then some dflt else offs[(x.toInt - lo).toNat]?
def zm_loff (dflt : Int) (ps : Array (Int × Int)) (x : Int32) : Option Int := if (ps.toList.zip (ps.toList.drop 1)).all (fun (a, next) => a.1 < next.1) = true then some (Op.lookupswitch.offset ps.toList dflt x.toInt) else none
def zm_sw (st : List Value) (pc : Nat) (f : Int32 → Option Int) : Option (Nat × List Value) := match st with
  | .int x :: r => match f x with
    | some o => match zm_tgt pc o with
      | some t => some (t, r)
      | none => none
    | none => none
  | _ => none
theorem zm_sw_of {st st' : List Value} {pc q : Nat} {f : Int32 → Option Int} (h : zm_sw st pc f = some (q, st')) : ∃ x o, st = .int x :: st' ∧ f x = some o ∧ (pc : Int) + o = (q : Int) := by
  unfold zm_sw at h
  split at h
  · rename_i x r
    split at h
    · rename_i o ho
      split at h
      · rename_i t ht
        cases Option.some.inj h
        exact ⟨x, o, rfl, ho, zm_tgt_of ht⟩
      · cases h
    · cases h
  · cases h
def zm_br (no : Nat) (i : Instr) (pc : Nat) (st : List Value) : Option (Nat × List Value) := match i with
  | .tableswitch dflt lo hi offs => zm_sw st pc (zm_toff dflt lo hi offs)
  | .lookupswitch dflt ps => zm_sw st pc (zm_loff dflt ps)
  | i => match zm_off i with
    | some o => match zm_tgt pc o with
      | some t => zm_br0 no i t pc st
      | none => none
    | none => none
section ZB
variable {p : Program} {l : Launch} {e : Env} {R : Room} {s : State} {m : MethodId} {args : Array Value} {below : List Frame} {meth : Method} {c : Code} {H : Heap} {locs : List Loc} {cells slots : Nat} {Q : State → Prop}
variable {cc : ByteArray} {pc t no : Nat} {ls : Array Slot}
set_option maxHeartbeats 4000000 in
theorem zm_br0_ok (ad : Nat → Nat) (hi : zm_inj no ad) (hexec : p.tables.exec = Jvm.exec) (hb : c.code = cc) {i : Instr} {st st' : List Value} {q : Nat} (h : zm_br0 no i t pc st = some (q, st')) (ht : ∀ o, zm_off i = some o → (pc : Int) + o = (t : Int)) (hdg : decode cc pc = .ok (i, zm_len i))
    (k : W p l e R s m args below meth c H locs cells slots Q (F0 m q ls (st'.map (zm_sh ad)))) : W p l e R s m args below meth c H locs cells slots Q (F0 m pc ls (st.map (zm_sh ad))) := by
  unfold zm_br0 at h
  split at h
  · cases h; exact lv_goto hexec hb hdg (ht _ rfl) k
  · obtain ⟨x, rfl, rfl⟩ := zm_b1_of h; exact lv_if_eq hexec hb hdg (ht _ rfl) (fun z => by rw [if_pos z] at k; exact k) (fun z => by rw [if_neg z] at k; exact k)
  · obtain ⟨x, rfl, rfl⟩ := zm_b1_of h; exact lv_if_ne hexec hb hdg (ht _ rfl) (fun z => by rw [if_neg z] at k; exact k) (fun z => by rw [if_pos z] at k; exact k)
  · obtain ⟨x, rfl, rfl⟩ := zm_b1_of h; exact lv_if_lt hexec hb hdg (ht _ rfl) (fun z => by rw [if_pos z] at k; exact k) (fun z => by rw [if_neg z] at k; exact k)
  · obtain ⟨x, rfl, rfl⟩ := zm_b1_of h; exact lv_if_ge hexec hb hdg (ht _ rfl) (fun z => by rw [if_pos z] at k; exact k) (fun z => by rw [if_neg z] at k; exact k)
  · obtain ⟨x, rfl, rfl⟩ := zm_b1_of h; exact lv_if_gt hexec hb hdg (ht _ rfl) (fun z => by rw [if_pos z] at k; exact k) (fun z => by rw [if_neg z] at k; exact k)
  · obtain ⟨x, rfl, rfl⟩ := zm_b1_of h; exact lv_if_le hexec hb hdg (ht _ rfl) (fun z => by rw [if_pos z] at k; exact k) (fun z => by rw [if_neg z] at k; exact k)
  · obtain ⟨x, y, rfl, rfl⟩ := zm_b2_of h; exact lv_icmp_eq hexec hb hdg (ht _ rfl) (fun z => by rw [if_pos z] at k; exact k) (fun z => by rw [if_neg z] at k; exact k)
  · obtain ⟨x, y, rfl, rfl⟩ := zm_b2_of h; exact lv_icmp_ne hexec hb hdg (ht _ rfl) (fun z => by rw [if_neg z] at k; exact k) (fun z => by rw [if_pos z] at k; exact k)
  · obtain ⟨x, y, rfl, rfl⟩ := zm_b2_of h; exact lv_icmp_lt hexec hb hdg (ht _ rfl) (fun z => by rw [if_pos z] at k; exact k) (fun z => by rw [if_neg z] at k; exact k)
  · obtain ⟨x, y, rfl, rfl⟩ := zm_b2_of h; exact lv_icmp_ge hexec hb hdg (ht _ rfl) (fun z => by rw [if_pos z] at k; exact k) (fun z => by rw [if_neg z] at k; exact k)
  · obtain ⟨x, y, rfl, rfl⟩ := zm_b2_of h; exact lv_icmp_gt hexec hb hdg (ht _ rfl) (fun z => by rw [if_pos z] at k; exact k) (fun z => by rw [if_neg z] at k; exact k)
  · obtain ⟨x, y, rfl, rfl⟩ := zm_b2_of h; exact lv_icmp_le hexec hb hdg (ht _ rfl) (fun z => by rw [if_pos z] at k; exact k) (fun z => by rw [if_neg z] at k; exact k)
  · rcases zm_bn_of h with ⟨rfl, rfl⟩ | ⟨x, rfl, rfl⟩
    · exact lv_ifnullN hexec hb hdg (ht _ rfl) k
    · exact lv_ifnull hexec hb hdg k
  · rcases zm_bn_of h with ⟨rfl, rfl⟩ | ⟨x, rfl, rfl⟩
    · exact lv_ifnonnullN hexec hb hdg k
    · exact lv_ifnonnull hexec hb hdg (ht _ rfl) k
  · obtain ⟨rx, ry, e1, rfl⟩ := zm_ba_of hi h; rw [e1]; exact lv_acmp_eq hexec hb hdg (ht _ rfl) (fun z => by rw [if_pos z] at k; exact k) (fun z => by rw [if_neg z] at k; exact k)
  · obtain ⟨rx, ry, e1, rfl⟩ := zm_ba_of hi h; rw [e1]; exact lv_acmp_ne hexec hb hdg (ht _ rfl) (fun z => by rw [if_neg z] at k; exact k) (fun z => by rw [if_pos z] at k; exact k)
  · cases h
theorem zm_br_ok (ad : Nat → Nat) (hi : zm_inj no ad) (hexec : p.tables.exec = Jvm.exec) (hb : c.code = cc) {i : Instr} {st st' : List Value} {q len : Nat} (h : zm_br no i pc st = some (q, st')) (hdg : decode cc pc = .ok (i, len)) (hlen : (zm_off i).isSome = true → len = zm_len i)
    (k : W p l e R s m args below meth c H locs cells slots Q (F0 m q ls (st'.map (zm_sh ad)))) : W p l e R s m args below meth c H locs cells slots Q (F0 m pc ls (st.map (zm_sh ad))) := by
  unfold zm_br at h
  split at h
  · obtain ⟨x, o, rfl, h1, h2⟩ := zm_sw_of h
    unfold zm_toff at h1
    split at h1
    · rename_i hx
      cases Option.some.inj h1
      exact lv_tableOut hexec hb hdg hx h2 k
    · rename_i hx
      exact lv_tableIn hexec hb hdg (fun z => hx (Or.inl z)) (fun z => hx (Or.inr z)) h1 h2 k
  · obtain ⟨x, o, rfl, h1, h2⟩ := zm_sw_of h
    unfold zm_loff at h1
    split at h1
    · rename_i hx
      exact lv_lookup hexec hb hdg hx (Option.some.inj h1) h2 k
    · cases h1
  · split at h
    · rename_i o ho
      split at h
      · rename_i t ht
        have hz := hlen (by rw [ho]; rfl)
        subst hz
        exact zm_br0_ok ad hi hexec hb h (fun o' ho' => by rw [ho] at ho'; cases Option.some.inj ho'; exact zm_tgt_of ht) hdg k
      · cases h
    · cases h
end ZB
end
section
/-! THE SMALL HEAP IN THE MACHINE's, AND THE JUDGEMENT zm_J: from here the method comes to an end of which Q speaks. -/
/-- what is known at the law's start: the words of the tables; the kinds of objects (D) and of arrays (kA) -/
def zm_K (D : va_G) (kA : Nat → ClassId) (U : State) : Prop := (∀ (c : Nat) (q : vw_C), zm_cl[c]? = some q → u_Kn U q.1 q.2.1 q.2.2 (D.1 c) (D.2 c)) ∧ ∀ (k : Nat) (ty : FieldType), zm_aty[k]? = some ty → ArrOfT U (kA k) ty ∧ va_RA U (kA k) ty
theorem zm_K.moved {D : va_G} {kA : Nat → ClassId} {u U : State} (hvm : u.vm.Alike U.vm) (h : zm_K D kA u) : zm_K D kA U := ⟨fun c q hq => u_Kn_moved hvm (h.1 c q hq), fun k ty hk => ⟨arrOfT_moved hvm (h.2 k ty hk).1, (h.2 k ty hk).2.moved hvm⟩⟩
abbrev zm_X : Type := Launch × State × va_G × (Nat → ClassId) × (Nat → Nat)
def zm_G0 (x : zm_X) : Prop := (∃ A : Array Value, ∀ w ∈ zm_tb, w.before A x.2.1 = true) ∧ zm_K x.2.2.1 x.2.2.2.1 x.2.1 ∧ x.1.stackTraces = false ∧ (∀ k, k < zm_no → x.2.2.2.2 k < x.2.1.heap.size) ∧
  ∀ q ∈ zm_os, q.1 < zm_no ∧ va_Z q.2.1 q.2.2.1 q.2.2.2 (.ref (x.2.2.2.2 q.1)) (fun a => x.2.1.heap.size ≤ a) x.2.1 x.2.1.heap
abbrev zm_N : Type := { x : zm_X // zm_G0 x }
abbrev zm_N.l (N : zm_N) : Launch := N.1.1
abbrev zm_N.s0 (N : zm_N) : State := N.1.2.1
abbrev zm_N.D (N : zm_N) : va_G := N.1.2.2.1
abbrev zm_N.kA (N : zm_N) : Nat → ClassId := N.1.2.2.2.1
/-- the lowest address that may be written -/
abbrev zm_N.b (N : zm_N) : Nat := N.s0.heap.size
def zm_N.ad (N : zm_N) (k : Nat) : Nat := if k < zm_no then N.1.2.2.2.2 k else N.b + (k - zm_no)
theorem zm_ad_new (N : zm_N) {k : Nat} (h : zm_no ≤ k) : N.ad k = N.b + (k - zm_no) := if_neg (Nat.not_lt.mpr h)
theorem zm_ad_old (N : zm_N) {k : Nat} (h : k < zm_no) : N.ad k < N.b := by
  unfold zm_N.ad
  rw [if_pos h]
  exact N.2.2.2.2.1 k h
theorem zm_ad_inj (N : zm_N) : zm_inj zm_no N.ad := by
  intro x y hxy ho he
  rcases Nat.lt_or_ge x zm_no with hx | hx
  · rcases Nat.lt_or_ge y zm_no with hy | hy
    · omega
    · have := zm_ad_old N hx
      rw [he, zm_ad_new N hy] at this
      omega
  · rcases Nat.lt_or_ge y zm_no with hy | hy
    · have := zm_ad_old N hy
      rw [← he, zm_ad_new N hx] at this
      omega
    · rw [zm_ad_new N hx, zm_ad_new N hy] at he
      omega
/-- an array, its references turned -/
def zm_sha (ad : Nat → Nat) (a : vp_A) : vp_A := match a.2 with
  | .inr (.inr (.inr (.inr f))) => (a.1, .inr (.inr (.inr (.inr fun j => (f j).map ad))))
  | _ => a
/-- an array's element -/
def zm_el (a : vp_A) (j : Nat) : Value := match a.2 with
  | .inl f => .int (f j)
  | .inr (.inl f) => .long (f j)
  | .inr (.inr (.inl f)) => .float (f j)
  | .inr (.inr (.inr (.inl f))) => .double (f j)
  | .inr (.inr (.inr (.inr f))) => va_rf (f j)
theorem zm_cell_el (cA : ClassId) (a : vp_A) : vp_cell cA a = arrV cA a.1 (zm_el a) := by
  obtain ⟨n, f | f | f | f | f⟩ := a <;> rfl
theorem zm_sha_1 (ad : Nat → Nat) (a : vp_A) : (zm_sha ad a).1 = a.1 := by
  obtain ⟨n, f | f | f | f | f⟩ := a <;> rfl
theorem zm_rf_sh (ad : Nat → Nat) (r : Option Nat) : va_rf (r.map ad) = zm_sh ad (va_rf r) := by cases r <;> rfl
theorem zm_sha_el (ad : Nat → Nat) (a : vp_A) (j : Nat) : zm_el (zm_sha ad a) j = zm_sh ad (zm_el a j) := by
  obtain ⟨n, f | f | f | f | f⟩ := a
  · rfl
  · rfl
  · rfl
  · rfl
  · exact zm_rf_sh ad (f j)
def zm_at (N : zm_N) (k : Nat) (e : zm_E) (H : Heap) : Prop := match e with
  | .inl x => (zm_no ≤ k → H[N.ad k]? = some (vp_cell (N.kA x.1) (zm_sha N.ad x.2))) ∧
      ∃ (cell : Cell) (ty : FieldType), zm_aty[x.1]? = some ty ∧ H[N.ad k]? = some cell ∧ N.s0.isArrayOf cell ty ∧ cell.vm ≠ .unknown ∧ cell.slots.size = x.2.1 ∧ ∀ j : Nat, j < x.2.1 → cell.slots[j]? = some (zm_sh N.ad (zm_el x.2 j))
  | .inr x => x.1 < zm_cl.length → va_at N.D zm_cl (N.ad k, .inr (x.1, x.2.map (zm_sh N.ad))) H
theorem zm_at.kept {N : zm_N} {k : Nat} {e : zm_E} {H H' : Heap} (h : zm_at N k e H) (hq : H'[N.ad k]? = H[N.ad k]?) : zm_at N k e H' := by
  cases e with
  | inl x =>
    obtain ⟨h1, cell, ty, h2, h3, h4⟩ := h
    exact ⟨fun z => by rw [hq]; exact h1 z, cell, ty, h2, by rw [hq]; exact h3, h4⟩
  | inr x => exact fun z => (h z).kept hq
/-- a new array stands -/
theorem zm_at.arr {N : zm_N} {k t : Nat} {a : vp_A} {ty : FieldType} {H : Heap} (ht : zm_aty[t]? = some ty) (h : H[N.ad k]? = some (vp_cell (N.kA t) (zm_sha N.ad a))) : zm_at N k (.inl (t, a)) H := by
  refine ⟨fun _ => h, _, ty, ht, h, ?_, ?_, ?_, ?_⟩
  · rw [zm_cell_el]
    exact (N.2.2.1.2 t ty ht).1 _ _
  · rw [zm_cell_el]
    exact fun z => by cases z
  · rw [zm_cell_el, arrV_size, zm_sha_1]
  · intro j hj
    rw [zm_cell_el, arrV_read _ _ (by rw [zm_sha_1]; exact hj), zm_sha_el]
def zm_Rp (N : zm_N) (G : zm_H) (H : Heap) : Prop :=
  H.size + zm_no = N.b + G.1.length ∧ zm_no ≤ G.1.length ∧ (∀ (k : Nat) (e : zm_E), G.1[k]? = some e → zm_at N k e H) ∧ ∀ q : Nat, q < N.b → H[q]? = N.s0.heap[q]?
/-- how a method ends: it gives a value or none, or it throws (the number of the exception's kind, its place) -/
abbrev zm_O : Type := Option Value ⊕ (Nat × Nat)
/-- what is known of a thrown thing -/
def zm_xc (N : zm_N) (x : Nat × Nat) (t : State) : Prop := ∃ (C : String) (cell : Cell), zm_xn[x.1]? = some C ∧ t.heap[N.ad x.2]? = some cell ∧ cell.vm = .none ∧ t.vm.findClass C = some cell.cls
def zm_om (N : zm_N) (z : zm_O) (o : Outcome) (t : State) : Prop := match z with
  | .inl v => o = .returned (v.map (zm_sh N.ad))
  | .inr x => o = .threw (N.ad x.2) ∧ zm_xc N x t
def zm_End (N : zm_N) (s : State) (sl0 : Nat) (below : List Frame) (Q : zm_O → zm_H → Prop) (t : State) : Prop :=
  ∃ (z : zm_O) (G : zm_H) (o : Outcome) (L : List Loc) (cells slots : Nat), t.status = .running ∧ Ended t below o ∧ zm_om N z o t ∧ Q z G ∧ zm_Rp N G t.heap ∧ s.WarmedH t.vm ∧ s.sameButNew ({ t with vm := s.vm } : State) L cells slots ∧ (∀ q ∈ L, N.b ≤ q.base) ∧ s.heap.size + cells = t.heap.size ∧ sl0 + slots = G.2
/-- an invocation of the method mi, with d frames of room -/
def zm_Cx (N : zm_N) (d mi : Nat) (p : Program) (R : Room) (s : State) (m : MethodId) (meth : Method) (c : Code) (sl0 : Nat) : Prop :=
  p.tables.exec = Jvm.exec ∧ c.code = zm_by mi ∧ c.maxLocals = zm_nl mi ∧ s.vm.findClass (zm_mn mi).cls = some m.cls ∧ N.s0.WarmedH s.vm ∧ meth.locks = false ∧ meth.sig.returnType = zm_rt mi ∧ meth.name = (zm_mn mi).name ∧
  c.exceptionTable.toList = tableOf (zm_hd mi) ∧ d ≤ R.frames ∧ zm_w * d ≤ R.locals ∧ N.b + zm_C ≤ s.heap.size + R.cells + zm_no ∧ zm_S ≤ sl0 + R.slots
def zm_J (N : zm_N) (d mi pc : Nat) (lv : zm_L) (st : List Value) (G : zm_H) (Q : zm_O → zm_H → Prop) : Prop :=
  ∀ (p : Program) (e : Env) (R : Room) (s : State) (m : MethodId) (args : Array Value) (below : List Frame) (meth : Method) (c : Code) (sl0 : Nat), zm_Cx N d mi p R s m meth c sl0 →
  ∀ (H : Heap) (locs : List Loc) (ls : Array Slot) (cells slots : Nat), zm_Rp N G H → lv_has ls (zm_nl mi) (zm_shL N.ad lv) → (∀ q ∈ locs, N.b ≤ q.base) → s.heap.size + cells = H.size → sl0 + slots = G.2 →
    W p N.l e R s m args below meth c H locs cells slots (zm_End N s sl0 below Q) (F0 m pc ls (st.map (zm_sh N.ad)))
theorem zm_Wmono {p : Program} {l : Launch} {e : Env} {R : Room} {s : State} {m : MethodId} {args : Array Value} {below : List Frame} {meth : Method} {c : Code} {H : Heap} {locs : List Loc} {cells slots : Nat} {Q Q' : State → Prop} {g : JFrame} (h : ∀ t, Q t → Q' t)
    (k : W p l e R s m args below meth c H locs cells slots Q g) : W p l e R s m args below meth c H locs cells slots Q' g := fun T hT X => by
  obtain ⟨t, a, b⟩ := k T hT X
  exact ⟨t, a, h t b⟩
theorem zm_End.mono {N : zm_N} {s : State} {sl0 : Nat} {below : List Frame} {Q Q' : zm_O → zm_H → Prop} (h : ∀ z G, Q z G → Q' z G) {t : State} (k : zm_End N s sl0 below Q t) : zm_End N s sl0 below Q' t := by
  obtain ⟨z, G, o, L, ce, sl, a1, a2, a3, a4, a5⟩ := k
  exact ⟨z, G, o, L, ce, sl, a1, a2, a3, h z G a4, a5⟩
theorem zm_J.mono {N : zm_N} {d mi pc : Nat} {lv : zm_L} {st : List Value} {G : zm_H} {Q Q' : zm_O → zm_H → Prop} (k : zm_J N d mi pc lv st G Q) (h : ∀ z G, Q z G → Q' z G) : zm_J N d mi pc lv st G Q' :=
  fun p e R s m args below meth c sl0 C H locs ls cells slots h1 h2 h3 h4 h5 => zm_Wmono (fun _ q => q.mono h) (k p e R s m args below meth c sl0 C H locs ls cells slots h1 h2 h3 h4 h5)
/-! words -/
theorem zm_wd (N : zm_N) {U : State} (hW : N.s0.WarmedH U.vm) {w : Cond} (hw : w ∈ zm_tb) (hg : (w.onTables && w.keeps) = true) (a : Array Value) : w.before a U = true := by
  obtain ⟨A, hA⟩ := N.2.1
  exact word_at hW (Or.inl hg) (hA w hw)
theorem zm_wdA (N : zm_N) {U : State} (hW : N.s0.WarmedH U.vm) {ty : FieldType} (hw : Cond.arrayClass ty ∈ zm_tb) (a : Array Value) : (Cond.arrayClass ty).before a U = true := by
  obtain ⟨A, hA⟩ := N.2.1
  exact word_at hW (Or.inr ⟨ty, rfl⟩) (hA _ hw)
theorem zm_kn (N : zm_N) {U : State} (hW : N.s0.WarmedH U.vm) : zm_K N.D N.kA U := N.2.2.1.moved hW.alike
/-! the heap's moves -/
def zm_set (G : zm_H) (a : Nat) (e : zm_E) : zm_H := (G.1.set a e, G.2)
def zm_new (G : zm_H) (e : zm_E) (n : Nat) : zm_H := (G.1 ++ [e], G.2 + n)
theorem zm_Rp.lt {N : zm_N} {G : zm_H} {a : Nat} {e : zm_E} (ha : G.1[a]? = some e) : a < G.1.length := (List.getElem?_eq_some_iff.mp ha).1
theorem zm_Rp.ne {N : zm_N} {G : zm_H} {a q : Nat} {e e' : zm_E} (hn : zm_no ≤ a) (h : q ≠ a) : N.ad q ≠ N.ad a := zm_ad_inj N q a h (Or.inr hn)
theorem zm_Rp.set {N : zm_N} {G : zm_H} {H H' : Heap} (h : zm_Rp N G H) {a : Nat} {e : zm_E} (hn : zm_no ≤ a) (ha : zm_at N a e H') (hz : H'.size = H.size) (ho : ∀ q : Nat, q ≠ N.ad a → H'[q]? = H[q]?) : zm_Rp N (zm_set G a e) H' := by
  refine ⟨by rw [hz, h.1]; simp [zm_set], by simp only [zm_set, List.length_set]; exact h.2.1, fun q x hq => ?_, fun q hq => ?_⟩
  · by_cases hqa : q = a
    · subst hqa
      have hl : q < G.1.length := by
        have := (List.getElem?_eq_some_iff.mp hq).1
        simpa [zm_set] using this
      have : (zm_set G q e).1[q]? = some e := by simp [zm_set, hl]
      rw [this] at hq
      cases hq
      exact ha
    · have : (zm_set G a e).1[q]? = G.1[q]? := by simp only [zm_set]; exact List.getElem?_set_ne (Ne.symm hqa)
      rw [this] at hq
      exact (h.2.2.1 q x hq).kept (ho _ (zm_ad_inj N q a hqa (Or.inr hn)))
  · rw [ho q (by have := zm_ad_new N hn; omega)]
    exact h.2.2.2 q hq
theorem zm_Rp.new {N : zm_N} {G : zm_H} {H H' : Heap} (h : zm_Rp N G H) {e : zm_E} {n : Nat} (ha : zm_at N G.1.length e H') (hz : H'.size = H.size + 1) (ho : ∀ q : Nat, q < H.size → H'[q]? = H[q]?) : zm_Rp N (zm_new G e n) H' := by
  have h1 := h.1
  have h2 := h.2.1
  refine ⟨by rw [hz]; simp only [zm_new, List.length_append, List.length_singleton]; omega, by simp only [zm_new, List.length_append, List.length_singleton]; omega, fun q x hq => ?_, fun q hq => ?_⟩
  · by_cases hqa : q = G.1.length
    · subst hqa
      have : (zm_new G e n).1[G.1.length]? = some e := by simp [zm_new]
      rw [this] at hq
      cases hq
      exact ha
    · have hl : q < G.1.length := by
        have := (List.getElem?_eq_some_iff.mp hq).1
        simp only [zm_new, List.length_append, List.length_singleton] at this
        omega
      have : (zm_new G e n).1[q]? = G.1[q]? := by simp only [zm_new]; exact List.getElem?_append_left hl
      rw [this] at hq
      refine (h.2.2.1 q x hq).kept (ho _ ?_)
      rcases Nat.lt_or_ge q zm_no with hx | hx
      · have := zm_ad_old N hx
        omega
      · rw [zm_ad_new N hx]
        omega
  · rw [ho q (by omega)]
    exact h.2.2.2 q hq
theorem zm_Rp.next {N : zm_N} {G : zm_H} {H : Heap} (h : zm_Rp N G H) : N.ad G.1.length = H.size := by
  rw [zm_ad_new N h.2.1]
  have := h.1
  have := h.2.1
  omega
end
section
/-! CALLS: a callee's judgement, from its entry, serves every call of it. -/
theorem zm_weaken {tb : Tables} {e : Env} {g : Frame} {below : List Frame} {a b : State} (h : Steps tb e (g :: below) a b) : Steps tb e below a b := by
  obtain ⟨n, hn, hw⟩ := h
  exact ⟨n, hn, fun k hk => Within.weaken (mid := [g]) (hw k hk)⟩
theorem zm_args_sh (ad : Nat → Nat) (vs : List Value) : ∀ i : Nat, lv_args i (vs.map (zm_sh ad)) = zm_shL ad (lv_args i vs) := by
  induction vs with
  | nil => intro i; rfl
  | cons v r ih =>
    intro i
    show (i, zm_sh ad v) :: lv_args (if (zm_sh ad v).category = 2 then i + 2 else i + 1) (r.map (zm_sh ad)) = (i, zm_sh ad v) :: zm_shL ad (lv_args (if v.category = 2 then i + 2 else i + 1) r)
    rw [zm_sh_cat, ih]
theorem zm_sl_sh (ad : Nat → Nat) (vs : List Value) : (lg_sl (vs.map (zm_sh ad))).length = (lg_sl vs).length := by
  induction vs with
  | nil => rfl
  | cons v r ih =>
    unfold lg_sl at ih ⊢
    rw [List.map_cons, List.flatMap_cons, List.flatMap_cons, List.length_append, List.length_append, ih, zm_sh_cat]
    by_cases h : v.category = 2
    · rw [if_pos h, if_pos h]; rfl
    · rw [if_neg h, if_neg h]; rfl
theorem zm_cat_sh (ad : Nat → Nat) (vs : List Value) : ((vs.map (zm_sh ad)).map fun v => v.category).sum = (vs.map fun v => v.category).sum := by
  rw [List.map_map]
  exact congrArg List.sum (List.map_congr_left fun v _ => zm_sh_cat ad v)
/-- the method's code stands in the tables -/
def zm_okm (mj : Nat) : Prop := plainName (zm_mn mj).cls = true ∧ ((Cond.code (zm_mn mj) (zm_by mj) (zm_nl mj) (zm_rt mj) ∈ zm_tb ∧ zm_hd mj = []) ∨ Cond.codeWith (zm_mn mj) (zm_by mj) (zm_nl mj) (zm_rt mj) (zm_hd mj) ∈ zm_tb)
theorem zm_okm_spec (N : zm_N) {U : State} (hW : N.s0.WarmedH U.vm) {mj : Nat} (h : zm_okm mj) :
    ∃ (mk : MethodId) (methk : Method) (ck : Code), U.methodNamed? (zm_mn mj) = some mk ∧ U.vm.method? mk = some methk ∧ methk.code = some ck ∧ ck.code = zm_by mj ∧ ck.maxLocals = zm_nl mj ∧ methk.sig.returnType = zm_rt mj ∧ methk.locks = false ∧ ck.exceptionTable.toList = tableOf (zm_hd mj) ∧ parseMethodDescriptor (zm_mn mj).desc = some methk.sig := by
  rcases h.2 with ⟨h1, h2⟩ | h1
  · have hw := zm_wd N hW h1 rfl #[]
    obtain ⟨mk, hn⟩ := Cond.code_named hw
    obtain ⟨methk, ck, a1, a2, a3, a4, a5, a6, a7, a8⟩ := Cond.code_spec hn hw
    refine ⟨mk, methk, ck, hn, a1, a2, a3, a4, a5, a6, ?_, a8⟩
    rw [h2]
    have : ck.exceptionTable = #[] := by simpa using a7
    rw [this]
    rfl
  · obtain ⟨mk, methk, ck, hn, a1, a2, a3, a4, a5, a6, a7, a8⟩ := Cond.codeWith_spec (zm_wd N hW h1 rfl #[])
    refine ⟨mk, methk, ck, hn, a1, a2, a3, a4, a6, a7, ?_, a8⟩
    rw [← a5, tableOf, List.map_map]
    exact (List.map_id' _).symm.trans (List.map_congr_left fun x _ => by cases x; rfl)
set_option maxHeartbeats 4000000 in
theorem zm_callc {N : zm_N} {d mi mj : Nat} {av : List Value} {G : zm_H} {Q1 : zm_O → zm_H → Prop} (hJ : zm_J N d mj 0 (lv_args 0 av) [] G Q1) (hok : zm_okm mj)
    {p : Program} {e : Env} {R : Room} {s : State} {m : MethodId} {args : Array Value} {below : List Frame} {meth : Method} {c : Code} {sl0 : Nat} (C : zm_Cx N (d + 1) mi p R s m meth c sl0)
    {T : State} {locs : List Loc} {cells slots : Nat} (X : Stand p N.l e R s m args below meth c T locs cells slots) (hR : zm_Rp N G T.heap) (hL : ∀ q ∈ locs, N.b ≤ q.base) (hc : s.heap.size + cells = T.heap.size) (hs : sl0 + slots = G.2)
    {g : JFrame} (hg : g.method = m) (hsize : g.locals.size = c.maxLocals) {ig : Instr} {len : Nat} (hdg : decode c.code g.pc = .ok (ig, len)) (hw : 2 * g.monitorRoom + (g.stack.map fun v => v.category).sum + (zm_nl mj + 11) ≤ zm_w)
    {mk : MethodId} (hn : T.methodNamed? (zm_mn mj) = some mk) (hfit : (lg_sl av).length ≤ zm_nl mj) (hcm : G.1.length ≤ zm_C) (hsm : G.2 ≤ zm_S) :
    ∃ (z : zm_O) (G' : zm_H) (T' : State) (L : List Loc) (k n : Nat), Q1 z G' ∧ Stand p N.l e R s m args below meth c T' (locs ++ L) (cells + k) (slots + n) ∧ zm_Rp N G' T'.heap ∧ (∀ q ∈ locs ++ L, N.b ≤ q.base) ∧ s.heap.size + (cells + k) = T'.heap.size ∧ sl0 + (slots + n) = G'.2 ∧
      ((∃ v, z = .inl v ∧ ∀ acts, Steps p.tables e below (doInvoke e (T.setTop g) acts mk (av.map (zm_sh N.ad)).toArray).1 (T'.setTop { g with pc := g.pc + len, stack := (v.map (zm_sh N.ad)).toList ++ g.stack })) ∨
       (∃ x, z = .inr x ∧ zm_xc N x T' ∧ ∀ acts, Steps p.tables e below (doInvoke e (T.setTop g) acts mk (av.map (zm_sh N.ad)).toArray).1 ((T'.setTop g).pushFrame (.throwing (N.ad x.2))))) := by
  obtain ⟨cx1, cx2, cx3, cx4, cx5, cx6, cx7, cx8, cx9, cx10, cx11, cx12, cx13⟩ := C
  have hWT : N.s0.WarmedH T.vm := State.WarmedH.trans cx5 X.warmed
  obtain ⟨mk', methk, ck, hn', hmk, hck, hbk, hlk, hrk, hlock, hek, hsig⟩ := zm_okm_spec N hWT hok
  cases Option.some.inj (hn.symm.trans hn')
  have hpk : T.plainMethod mk := State.plainMethod.of_named (plainFor_of_name hok.1) hn hmk
  have hz := hR.1
  have hcr : cells ≤ R.cells := by omega
  have hsr : slots ≤ R.slots := by omega
  have hwd : zm_w * (d + 1) = zm_w * d + zm_w := Nat.mul_succ _ _
  generalize hav : av.map (zm_sh N.ad) = av'
  have hfit' : (lg_sl av').length ≤ zm_nl mj := by rw [← hav, zm_sl_sh]; exact hfit
  obtain ⟨Y, hin⟩ := X.into hg hsize hdg av'.toArray (R' := { frames := R.frames - 1, cells := R.cells - cells, slots := R.slots - slots, locals := R.locals - zm_w }) hmk hck hlock hpk
    (by show R.frames - 1 + 1 ≤ R.frames; omega) (by show _ + _ + (R.locals - zm_w) ≤ R.locals; rw [hlk]; omega)
    (by show cells + (R.cells - cells) ≤ R.cells; omega) (by show slots + (R.slots - slots) ≤ R.slots; omega)
  have hl := lv_entry av' (n := zm_nl mj) hfit'
  rw [← hav, zm_args_sh, hav] at hl
  have hent : entryFrame mk av'.toArray ck.maxLocals = F0 mk 0 ((lg_sl av' ++ List.replicate (zm_nl mj - (lg_sl av').length) Slot.unset).toArray) [] := by rw [hlk, lg_entry_eq]
  generalize hU : (T.setTop g).pushFrame (.java (entryFrame mk av'.toArray ck.maxLocals)) = U at Y hin
  have hUh : U.heap = T.heap := by rw [← hU]; rfl
  have hCk : zm_Cx N d mj p { frames := R.frames - 1, cells := R.cells - cells, slots := R.slots - slots, locals := R.locals - zm_w } (T.calling g mk av'.toArray) mk methk ck G.2 := by
    refine ⟨cx1, hbk, hlk, findClass_of_methodNamed hn, hWT, hlock, hrk, (name_of_methodNamed hn hmk).1, hek, ?_, ?_, ?_, ?_⟩
    · show d ≤ R.frames - 1; omega
    · show zm_w * d ≤ R.locals - zm_w
      omega
    · show N.b + zm_C ≤ T.heap.size + (R.cells - cells) + zm_no; omega
    · show zm_S ≤ G.2 + (R.slots - slots); omega
  obtain ⟨t, hst, z, G', o, L, k, n, b1, b2, b3, b4, b5, b6, b7, b8, b9, b10⟩ := hJ p e _ (T.calling g mk av'.toArray) mk av'.toArray (.java g :: below) methk ck G.2 hCk T.heap [] _ 0 0 hR hl (fun q h => by cases h) (by show T.heap.size + 0 = T.heap.size; omega) rfl U hUh Y
  have b9' : T.heap.size + k = t.heap.size := b9
  have hLL : ∀ q ∈ locs ++ L, N.b ≤ q.base := fun q hq => by
    rcases List.mem_append.mp hq with h | h
    · exact hL q h
    · exact b8 q h
  have hsteps : ∀ acts, Steps p.tables e below (doInvoke e (T.setTop g) acts mk av'.toArray).1 t := fun acts => by
    rw [hin acts, hent]
    exact zm_weaken hst
  cases z with
  | inl v =>
    cases (show o = .returned (v.map (zm_sh N.ad)) from b3)
    obtain ⟨T', X', hW', hsame', ht⟩ := X.outOf hg hdg b2 b6 b7
    have hh : t.heap = T'.heap := by rw [ht]; rfl
    refine ⟨.inl v, G', T', L, k, n, b4, X', by rw [← hh]; exact b5, hLL, by rw [← hh]; omega, by omega, Or.inl ⟨v, rfl, fun acts => by rw [← ht]; exact hsteps acts⟩⟩
  | inr x =>
    obtain ⟨ho, C0, cell, y1, y2, y3, y4⟩ := (show o = .threw (N.ad x.2) ∧ zm_xc N x t from b3)
    subst ho
    obtain ⟨T', X', hW', hsame', ht⟩ := X.outOfThrown hg b2 b6 b7
    have hh : t.heap = T'.heap := by rw [ht]; rfl
    have hv : t.vm = T'.vm := by rw [ht]; rfl
    refine ⟨.inr x, G', T', L, k, n, b4, X', by rw [← hh]; exact b5, hLL, by rw [← hh]; omega, by omega, Or.inr ⟨x, rfl, ⟨C0, cell, y1, by rw [← hh]; exact y2, y3, by rw [← hv]; exact y4⟩, fun acts => by rw [← ht]; exact hsteps acts⟩⟩
end
