section
/-- a private method of a class that the tables say can be made, by its rows of tables_1 -/
def lw_okq (q : MethodName × Nat) : Prop := (q.1.cls ≠ "java/lang/invoke/MethodHandle" ∧ q.1.cls ≠ "java/lang/invoke/VarHandle") ∧ Cond.instantiable q.1.cls q.2 ∈ tables_1 ∧ Cond.privateMethod q.1 ∈ tables_1 ∧ Cond.instanceMethod q.1 ∈ tables_1
theorem lw_p0 : lw_okq (⟨"NeedMachine", "countDefinitions", "()I"⟩, 9) := ⟨⟨by decide +kernel, by decide +kernel⟩, List.mem_of_getElem? (i := 28) (by decide +kernel), List.mem_of_getElem? (i := 186) (by decide +kernel), List.mem_of_getElem? (i := 187) (by decide +kernel)⟩
theorem lw_p1 : lw_okq (⟨"java/lang/Throwable", "fillInStackTrace", "(I)Ljava/lang/Throwable;"⟩, 6) := ⟨⟨by decide +kernel, by decide +kernel⟩, List.mem_of_getElem? (i := 246) (by decide +kernel), List.mem_of_getElem? (i := 244) (by decide +kernel), List.mem_of_getElem? (i := 245) (by decide +kernel)⟩
theorem lw_p2 : lw_okq (⟨"NeedMachine$Text", "beginReading", "()V"⟩, 8) := ⟨⟨by decide +kernel, by decide +kernel⟩, List.mem_of_getElem? (i := 36) (by decide +kernel), List.mem_of_getElem? (i := 303) (by decide +kernel), List.mem_of_getElem? (i := 304) (by decide +kernel)⟩
theorem lw_p3 : lw_okq (⟨"NeedMachine$Text", "refuseUnless", "(Z)V"⟩, 8) := ⟨⟨by decide +kernel, by decide +kernel⟩, List.mem_of_getElem? (i := 36) (by decide +kernel), List.mem_of_getElem? (i := 310) (by decide +kernel), List.mem_of_getElem? (i := 311) (by decide +kernel)⟩
theorem lw_p4 : lw_okq (⟨"NeedMachine$Text", "readParameters", "()V"⟩, 8) := ⟨⟨by decide +kernel, by decide +kernel⟩, List.mem_of_getElem? (i := 36) (by decide +kernel), List.mem_of_getElem? (i := 315) (by decide +kernel), List.mem_of_getElem? (i := 316) (by decide +kernel)⟩
theorem lw_p5 : lw_okq (⟨"NeedMachine$Text", "isNewParameter", "(C)Z"⟩, 8) := ⟨⟨by decide +kernel, by decide +kernel⟩, List.mem_of_getElem? (i := 36) (by decide +kernel), List.mem_of_getElem? (i := 319) (by decide +kernel), List.mem_of_getElem? (i := 320) (by decide +kernel)⟩
theorem lw_p6 : lw_okq (⟨"NeedMachine$Text", "parameterIndex", "(C)I"⟩, 8) := ⟨⟨by decide +kernel, by decide +kernel⟩, List.mem_of_getElem? (i := 36) (by decide +kernel), List.mem_of_getElem? (i := 323) (by decide +kernel), List.mem_of_getElem? (i := 324) (by decide +kernel)⟩
theorem lw_p7 : lw_okq (⟨"NeedMachine$Text", "readToTheEnd", "()LNeedMachine$Expression;"⟩, 8) := ⟨⟨by decide +kernel, by decide +kernel⟩, List.mem_of_getElem? (i := 36) (by decide +kernel), List.mem_of_getElem? (i := 329) (by decide +kernel), List.mem_of_getElem? (i := 330) (by decide +kernel)⟩
theorem lw_p8 : lw_okq (⟨"NeedMachine$Text", "readExpression", "(I)LNeedMachine$Expression;"⟩, 8) := ⟨⟨by decide +kernel, by decide +kernel⟩, List.mem_of_getElem? (i := 36) (by decide +kernel), List.mem_of_getElem? (i := 333) (by decide +kernel), List.mem_of_getElem? (i := 334) (by decide +kernel)⟩
theorem lw_p9 : lw_okq (⟨"NeedMachine$Text", "canStand", "(CI)Z"⟩, 8) := ⟨⟨by decide +kernel, by decide +kernel⟩, List.mem_of_getElem? (i := 36) (by decide +kernel), List.mem_of_getElem? (i := 337) (by decide +kernel), List.mem_of_getElem? (i := 338) (by decide +kernel)⟩
theorem lw_p10 : lw_okq (⟨"NeedMachine$Text", "isLeaf", "(C)Z"⟩, 8) := ⟨⟨by decide +kernel, by decide +kernel⟩, List.mem_of_getElem? (i := 36) (by decide +kernel), List.mem_of_getElem? (i := 344) (by decide +kernel), List.mem_of_getElem? (i := 345) (by decide +kernel)⟩
theorem lw_p11 : lw_okq (⟨"NeedMachine$Text", "readLeaf", "(C)LNeedMachine$Expression;"⟩, 8) := ⟨⟨by decide +kernel, by decide +kernel⟩, List.mem_of_getElem? (i := 36) (by decide +kernel), List.mem_of_getElem? (i := 351) (by decide +kernel), List.mem_of_getElem? (i := 352) (by decide +kernel)⟩
theorem lw_p12 : lw_okq (⟨"NeedMachine", "work", "(LNeedMachine$Expression;LNeedMachine$Arguments;I)LNeedMachine$Value;"⟩, 9) := ⟨⟨by decide +kernel, by decide +kernel⟩, List.mem_of_getElem? (i := 28) (by decide +kernel), List.mem_of_getElem? (i := 417) (by decide +kernel), List.mem_of_getElem? (i := 418) (by decide +kernel)⟩
theorem lw_p13 : lw_okq (⟨"NeedMachine$Store", "nextValue", "(I)LNeedMachine$Value;"⟩, 7) := ⟨⟨by decide +kernel, by decide +kernel⟩, List.mem_of_getElem? (i := 70) (by decide +kernel), List.mem_of_getElem? (i := 431) (by decide +kernel), List.mem_of_getElem? (i := 432) (by decide +kernel)⟩
theorem lw_p14 : lw_okq (⟨"java/util/ArrayList", "add", "(Ljava/lang/Object;[Ljava/lang/Object;I)V"⟩, 3) := ⟨⟨by decide +kernel, by decide +kernel⟩, List.mem_of_getElem? (i := 103) (by decide +kernel), List.mem_of_getElem? (i := 443) (by decide +kernel), List.mem_of_getElem? (i := 444) (by decide +kernel)⟩
theorem lw_p15 : lw_okq (⟨"java/util/ArrayList", "grow", "()[Ljava/lang/Object;"⟩, 3) := ⟨⟨by decide +kernel, by decide +kernel⟩, List.mem_of_getElem? (i := 103) (by decide +kernel), List.mem_of_getElem? (i := 447) (by decide +kernel), List.mem_of_getElem? (i := 448) (by decide +kernel)⟩
def lw_privs_1 : List (MethodName × Nat) := [(⟨"NeedMachine", "countDefinitions", "()I"⟩, 9), (⟨"java/lang/Throwable", "fillInStackTrace", "(I)Ljava/lang/Throwable;"⟩, 6), (⟨"NeedMachine$Text", "beginReading", "()V"⟩, 8), (⟨"NeedMachine$Text", "refuseUnless", "(Z)V"⟩, 8), (⟨"NeedMachine$Text", "readParameters", "()V"⟩, 8), (⟨"NeedMachine$Text", "isNewParameter", "(C)Z"⟩, 8), (⟨"NeedMachine$Text", "parameterIndex", "(C)I"⟩, 8), (⟨"NeedMachine$Text", "readToTheEnd", "()LNeedMachine$Expression;"⟩, 8), (⟨"NeedMachine$Text", "readExpression", "(I)LNeedMachine$Expression;"⟩, 8), (⟨"NeedMachine$Text", "canStand", "(CI)Z"⟩, 8), (⟨"NeedMachine$Text", "isLeaf", "(C)Z"⟩, 8), (⟨"NeedMachine$Text", "readLeaf", "(C)LNeedMachine$Expression;"⟩, 8), (⟨"NeedMachine", "work", "(LNeedMachine$Expression;LNeedMachine$Arguments;I)LNeedMachine$Value;"⟩, 9), (⟨"NeedMachine$Store", "nextValue", "(I)LNeedMachine$Value;"⟩, 7), (⟨"java/util/ArrayList", "add", "(Ljava/lang/Object;[Ljava/lang/Object;I)V"⟩, 3), (⟨"java/util/ArrayList", "grow", "()[Ljava/lang/Object;"⟩, 3)]
theorem lw_r1 : ∀ q ∈ lw_privs_1, lw_okq q := List.forall_mem_cons.mpr ⟨lw_p0, List.forall_mem_cons.mpr ⟨lw_p1, List.forall_mem_cons.mpr ⟨lw_p2, List.forall_mem_cons.mpr ⟨lw_p3, List.forall_mem_cons.mpr ⟨lw_p4, List.forall_mem_cons.mpr ⟨lw_p5, List.forall_mem_cons.mpr ⟨lw_p6, List.forall_mem_cons.mpr ⟨lw_p7, List.forall_mem_cons.mpr ⟨lw_p8, List.forall_mem_cons.mpr ⟨lw_p9, List.forall_mem_cons.mpr ⟨lw_p10, List.forall_mem_cons.mpr ⟨lw_p11, List.forall_mem_cons.mpr ⟨lw_p12, List.forall_mem_cons.mpr ⟨lw_p13, List.forall_mem_cons.mpr ⟨lw_p14, List.forall_mem_cons.mpr ⟨lw_p15, fun _ h => absurd h List.not_mem_nil⟩⟩⟩⟩⟩⟩⟩⟩⟩⟩⟩⟩⟩⟩⟩⟩
theorem lw_p16 : lw_okq (⟨"java/util/ArrayList", "grow", "(I)[Ljava/lang/Object;"⟩, 3) := ⟨⟨by decide +kernel, by decide +kernel⟩, List.mem_of_getElem? (i := 103) (by decide +kernel), List.mem_of_getElem? (i := 451) (by decide +kernel), List.mem_of_getElem? (i := 452) (by decide +kernel)⟩
theorem lw_p17 : lw_okq (⟨"NeedMachine", "force", "(LNeedMachine$Closure;I)LNeedMachine$Value;"⟩, 9) := ⟨⟨by decide +kernel, by decide +kernel⟩, List.mem_of_getElem? (i := 28) (by decide +kernel), List.mem_of_getElem? (i := 517) (by decide +kernel), List.mem_of_getElem? (i := 518) (by decide +kernel)⟩
theorem lw_p18 : lw_okq (⟨"NeedMachine", "workName", "(II)LNeedMachine$Value;"⟩, 9) := ⟨⟨by decide +kernel, by decide +kernel⟩, List.mem_of_getElem? (i := 28) (by decide +kernel), List.mem_of_getElem? (i := 525) (by decide +kernel), List.mem_of_getElem? (i := 526) (by decide +kernel)⟩
theorem lw_p19 : lw_okq (⟨"NeedMachine", "definitionOf", "(I)LNeedMachine$Definition;"⟩, 9) := ⟨⟨by decide +kernel, by decide +kernel⟩, List.mem_of_getElem? (i := 28) (by decide +kernel), List.mem_of_getElem? (i := 529) (by decide +kernel), List.mem_of_getElem? (i := 530) (by decide +kernel)⟩
theorem lw_p20 : lw_okq (⟨"NeedMachine", "call", "(LNeedMachine$Definition;LNeedMachine$Arguments;I)LNeedMachine$Value;"⟩, 9) := ⟨⟨by decide +kernel, by decide +kernel⟩, List.mem_of_getElem? (i := 28) (by decide +kernel), List.mem_of_getElem? (i := 549) (by decide +kernel), List.mem_of_getElem? (i := 550) (by decide +kernel)⟩
theorem lw_p21 : lw_okq (⟨"NeedMachine", "closureOf", "(LNeedMachine$Expression;LNeedMachine$Arguments;)LNeedMachine$Closure;"⟩, 9) := ⟨⟨by decide +kernel, by decide +kernel⟩, List.mem_of_getElem? (i := 28) (by decide +kernel), List.mem_of_getElem? (i := 558) (by decide +kernel), List.mem_of_getElem? (i := 559) (by decide +kernel)⟩
theorem lw_p22 : lw_okq (⟨"NeedMachine", "apply", "(LNeedMachine$Expression;LNeedMachine$Arguments;I)LNeedMachine$Value;"⟩, 9) := ⟨⟨by decide +kernel, by decide +kernel⟩, List.mem_of_getElem? (i := 28) (by decide +kernel), List.mem_of_getElem? (i := 593) (by decide +kernel), List.mem_of_getElem? (i := 594) (by decide +kernel)⟩
theorem lw_p23 : lw_okq (⟨"NeedMachine", "choose", "(LNeedMachine$Expression;LNeedMachine$Arguments;I)LNeedMachine$Value;"⟩, 9) := ⟨⟨by decide +kernel, by decide +kernel⟩, List.mem_of_getElem? (i := 28) (by decide +kernel), List.mem_of_getElem? (i := 645) (by decide +kernel), List.mem_of_getElem? (i := 646) (by decide +kernel)⟩
theorem lw_p24 : lw_okq (⟨"NeedMachine", "reckon", "(LNeedMachine$Expression;LNeedMachine$Arguments;I)LNeedMachine$Value;"⟩, 9) := ⟨⟨by decide +kernel, by decide +kernel⟩, List.mem_of_getElem? (i := 28) (by decide +kernel), List.mem_of_getElem? (i := 653) (by decide +kernel), List.mem_of_getElem? (i := 654) (by decide +kernel)⟩
theorem lw_p25 : lw_okq (⟨"NeedMachine", "takeResultPair", "()LNeedMachine$Value;"⟩, 9) := ⟨⟨by decide +kernel, by decide +kernel⟩, List.mem_of_getElem? (i := 28) (by decide +kernel), List.mem_of_getElem? (i := 694) (by decide +kernel), List.mem_of_getElem? (i := 695) (by decide +kernel)⟩
theorem lw_p26 : lw_okq (⟨"NeedMachineModel", "bad", "(Z)Z"⟩, 44) := ⟨⟨by decide +kernel, by decide +kernel⟩, List.mem_of_getElem? (i := 715) (by decide +kernel), List.mem_of_getElem? (i := 867) (by decide +kernel), List.mem_of_getElem? (i := 868) (by decide +kernel)⟩
theorem lw_p27 : lw_okq (⟨"NeedMachineModel", "fail", "(I)I"⟩, 44) := ⟨⟨by decide +kernel, by decide +kernel⟩, List.mem_of_getElem? (i := 715) (by decide +kernel), List.mem_of_getElem? (i := 871) (by decide +kernel), List.mem_of_getElem? (i := 872) (by decide +kernel)⟩
theorem lw_p28 : lw_okq (⟨"NeedMachineModel", "heading", "([I)I"⟩, 44) := ⟨⟨by decide +kernel, by decide +kernel⟩, List.mem_of_getElem? (i := 715) (by decide +kernel), List.mem_of_getElem? (i := 879) (by decide +kernel), List.mem_of_getElem? (i := 880) (by decide +kernel)⟩
theorem lw_p29 : lw_okq (⟨"NeedMachineModel", "look", "()I"⟩, 44) := ⟨⟨by decide +kernel, by decide +kernel⟩, List.mem_of_getElem? (i := 715) (by decide +kernel), List.mem_of_getElem? (i := 883) (by decide +kernel), List.mem_of_getElem? (i := 884) (by decide +kernel)⟩
theorem lw_p30 : lw_okq (⟨"NeedMachineModel", "read", "(I)Z"⟩, 44) := ⟨⟨by decide +kernel, by decide +kernel⟩, List.mem_of_getElem? (i := 715) (by decide +kernel), List.mem_of_getElem? (i := 887) (by decide +kernel), List.mem_of_getElem? (i := 888) (by decide +kernel)⟩
theorem lw_p31 : lw_okq (⟨"NeedMachineModel", "store", "(I)I"⟩, 44) := ⟨⟨by decide +kernel, by decide +kernel⟩, List.mem_of_getElem? (i := 715) (by decide +kernel), List.mem_of_getElem? (i := 894) (by decide +kernel), List.mem_of_getElem? (i := 895) (by decide +kernel)⟩
def lw_privs_2 : List (MethodName × Nat) := [(⟨"java/util/ArrayList", "grow", "(I)[Ljava/lang/Object;"⟩, 3), (⟨"NeedMachine", "force", "(LNeedMachine$Closure;I)LNeedMachine$Value;"⟩, 9), (⟨"NeedMachine", "workName", "(II)LNeedMachine$Value;"⟩, 9), (⟨"NeedMachine", "definitionOf", "(I)LNeedMachine$Definition;"⟩, 9), (⟨"NeedMachine", "call", "(LNeedMachine$Definition;LNeedMachine$Arguments;I)LNeedMachine$Value;"⟩, 9), (⟨"NeedMachine", "closureOf", "(LNeedMachine$Expression;LNeedMachine$Arguments;)LNeedMachine$Closure;"⟩, 9), (⟨"NeedMachine", "apply", "(LNeedMachine$Expression;LNeedMachine$Arguments;I)LNeedMachine$Value;"⟩, 9), (⟨"NeedMachine", "choose", "(LNeedMachine$Expression;LNeedMachine$Arguments;I)LNeedMachine$Value;"⟩, 9), (⟨"NeedMachine", "reckon", "(LNeedMachine$Expression;LNeedMachine$Arguments;I)LNeedMachine$Value;"⟩, 9), (⟨"NeedMachine", "takeResultPair", "()LNeedMachine$Value;"⟩, 9), (⟨"NeedMachineModel", "bad", "(Z)Z"⟩, 44), (⟨"NeedMachineModel", "fail", "(I)I"⟩, 44), (⟨"NeedMachineModel", "heading", "([I)I"⟩, 44), (⟨"NeedMachineModel", "look", "()I"⟩, 44), (⟨"NeedMachineModel", "read", "(I)Z"⟩, 44), (⟨"NeedMachineModel", "store", "(I)I"⟩, 44)]
theorem lw_r2 : ∀ q ∈ lw_privs_2, lw_okq q := List.forall_mem_cons.mpr ⟨lw_p16, List.forall_mem_cons.mpr ⟨lw_p17, List.forall_mem_cons.mpr ⟨lw_p18, List.forall_mem_cons.mpr ⟨lw_p19, List.forall_mem_cons.mpr ⟨lw_p20, List.forall_mem_cons.mpr ⟨lw_p21, List.forall_mem_cons.mpr ⟨lw_p22, List.forall_mem_cons.mpr ⟨lw_p23, List.forall_mem_cons.mpr ⟨lw_p24, List.forall_mem_cons.mpr ⟨lw_p25, List.forall_mem_cons.mpr ⟨lw_p26, List.forall_mem_cons.mpr ⟨lw_p27, List.forall_mem_cons.mpr ⟨lw_p28, List.forall_mem_cons.mpr ⟨lw_p29, List.forall_mem_cons.mpr ⟨lw_p30, List.forall_mem_cons.mpr ⟨lw_p31, fun _ h => absurd h List.not_mem_nil⟩⟩⟩⟩⟩⟩⟩⟩⟩⟩⟩⟩⟩⟩⟩⟩
theorem lw_p32 : lw_okq (⟨"NeedMachineModel", "sweep", "()V"⟩, 44) := ⟨⟨by decide +kernel, by decide +kernel⟩, List.mem_of_getElem? (i := 715) (by decide +kernel), List.mem_of_getElem? (i := 902) (by decide +kernel), List.mem_of_getElem? (i := 903) (by decide +kernel)⟩
theorem lw_p33 : lw_okq (⟨"NeedMachineModel", "skip", "(I)I"⟩, 44) := ⟨⟨by decide +kernel, by decide +kernel⟩, List.mem_of_getElem? (i := 715) (by decide +kernel), List.mem_of_getElem? (i := 906) (by decide +kernel), List.mem_of_getElem? (i := 907) (by decide +kernel)⟩
theorem lw_p34 : lw_okq (⟨"NeedMachineModel", "workOut", "(II)V"⟩, 44) := ⟨⟨by decide +kernel, by decide +kernel⟩, List.mem_of_getElem? (i := 715) (by decide +kernel), List.mem_of_getElem? (i := 910) (by decide +kernel), List.mem_of_getElem? (i := 911) (by decide +kernel)⟩
theorem lw_p35 : lw_okq (⟨"NeedMachineModel", "push", "(II)V"⟩, 44) := ⟨⟨by decide +kernel, by decide +kernel⟩, List.mem_of_getElem? (i := 715) (by decide +kernel), List.mem_of_getElem? (i := 914) (by decide +kernel), List.mem_of_getElem? (i := 915) (by decide +kernel)⟩
theorem lw_p36 : lw_okq (⟨"NeedMachineModel", "step", "()V"⟩, 44) := ⟨⟨by decide +kernel, by decide +kernel⟩, List.mem_of_getElem? (i := 715) (by decide +kernel), List.mem_of_getElem? (i := 918) (by decide +kernel), List.mem_of_getElem? (i := 919) (by decide +kernel)⟩
theorem lw_p37 : lw_okq (⟨"NeedMachineModel", "keepValue", "()V"⟩, 44) := ⟨⟨by decide +kernel, by decide +kernel⟩, List.mem_of_getElem? (i := 715) (by decide +kernel), List.mem_of_getElem? (i := 922) (by decide +kernel), List.mem_of_getElem? (i := 923) (by decide +kernel)⟩
theorem lw_p38 : lw_okq (⟨"NeedMachineModel", "giveClosure", "(I)V"⟩, 44) := ⟨⟨by decide +kernel, by decide +kernel⟩, List.mem_of_getElem? (i := 715) (by decide +kernel), List.mem_of_getElem? (i := 926) (by decide +kernel), List.mem_of_getElem? (i := 927) (by decide +kernel)⟩
theorem lw_p39 : lw_okq (⟨"NeedMachineModel", "give", "(III)V"⟩, 44) := ⟨⟨by decide +kernel, by decide +kernel⟩, List.mem_of_getElem? (i := 715) (by decide +kernel), List.mem_of_getElem? (i := 930) (by decide +kernel), List.mem_of_getElem? (i := 931) (by decide +kernel)⟩
theorem lw_p40 : lw_okq (⟨"NeedMachineModel", "goOn", "(II)V"⟩, 44) := ⟨⟨by decide +kernel, by decide +kernel⟩, List.mem_of_getElem? (i := 715) (by decide +kernel), List.mem_of_getElem? (i := 934) (by decide +kernel), List.mem_of_getElem? (i := 935) (by decide +kernel)⟩
theorem lw_p41 : lw_okq (⟨"NeedMachineModel", "apply", "(I)V"⟩, 44) := ⟨⟨by decide +kernel, by decide +kernel⟩, List.mem_of_getElem? (i := 715) (by decide +kernel), List.mem_of_getElem? (i := 938) (by decide +kernel), List.mem_of_getElem? (i := 939) (by decide +kernel)⟩
theorem lw_p42 : lw_okq (⟨"NeedMachineModel", "closureOf", "(II)I"⟩, 44) := ⟨⟨by decide +kernel, by decide +kernel⟩, List.mem_of_getElem? (i := 715) (by decide +kernel), List.mem_of_getElem? (i := 942) (by decide +kernel), List.mem_of_getElem? (i := 943) (by decide +kernel)⟩
theorem lw_p43 : lw_okq (⟨"NeedMachineModel", "parameterOf", "(II)I"⟩, 44) := ⟨⟨by decide +kernel, by decide +kernel⟩, List.mem_of_getElem? (i := 715) (by decide +kernel), List.mem_of_getElem? (i := 946) (by decide +kernel), List.mem_of_getElem? (i := 947) (by decide +kernel)⟩
theorem lw_p44 : lw_okq (⟨"NeedMachineModel", "countOf", "(I)I"⟩, 44) := ⟨⟨by decide +kernel, by decide +kernel⟩, List.mem_of_getElem? (i := 715) (by decide +kernel), List.mem_of_getElem? (i := 950) (by decide +kernel), List.mem_of_getElem? (i := 951) (by decide +kernel)⟩
theorem lw_p45 : lw_okq (⟨"NeedMachineModel", "call", "(III)V"⟩, 44) := ⟨⟨by decide +kernel, by decide +kernel⟩, List.mem_of_getElem? (i := 715) (by decide +kernel), List.mem_of_getElem? (i := 954) (by decide +kernel), List.mem_of_getElem? (i := 955) (by decide +kernel)⟩
theorem lw_p46 : lw_okq (⟨"NeedMachineModel", "force", "(I)V"⟩, 44) := ⟨⟨by decide +kernel, by decide +kernel⟩, List.mem_of_getElem? (i := 715) (by decide +kernel), List.mem_of_getElem? (i := 958) (by decide +kernel), List.mem_of_getElem? (i := 959) (by decide +kernel)⟩
theorem lw_p47 : lw_okq (⟨"NeedMachineModel", "isNumber", "()Z"⟩, 44) := ⟨⟨by decide +kernel, by decide +kernel⟩, List.mem_of_getElem? (i := 715) (by decide +kernel), List.mem_of_getElem? (i := 962) (by decide +kernel), List.mem_of_getElem? (i := 963) (by decide +kernel)⟩
def lw_privs_3 : List (MethodName × Nat) := [(⟨"NeedMachineModel", "sweep", "()V"⟩, 44), (⟨"NeedMachineModel", "skip", "(I)I"⟩, 44), (⟨"NeedMachineModel", "workOut", "(II)V"⟩, 44), (⟨"NeedMachineModel", "push", "(II)V"⟩, 44), (⟨"NeedMachineModel", "step", "()V"⟩, 44), (⟨"NeedMachineModel", "keepValue", "()V"⟩, 44), (⟨"NeedMachineModel", "giveClosure", "(I)V"⟩, 44), (⟨"NeedMachineModel", "give", "(III)V"⟩, 44), (⟨"NeedMachineModel", "goOn", "(II)V"⟩, 44), (⟨"NeedMachineModel", "apply", "(I)V"⟩, 44), (⟨"NeedMachineModel", "closureOf", "(II)I"⟩, 44), (⟨"NeedMachineModel", "parameterOf", "(II)I"⟩, 44), (⟨"NeedMachineModel", "countOf", "(I)I"⟩, 44), (⟨"NeedMachineModel", "call", "(III)V"⟩, 44), (⟨"NeedMachineModel", "force", "(I)V"⟩, 44), (⟨"NeedMachineModel", "isNumber", "()Z"⟩, 44)]
theorem lw_r3 : ∀ q ∈ lw_privs_3, lw_okq q := List.forall_mem_cons.mpr ⟨lw_p32, List.forall_mem_cons.mpr ⟨lw_p33, List.forall_mem_cons.mpr ⟨lw_p34, List.forall_mem_cons.mpr ⟨lw_p35, List.forall_mem_cons.mpr ⟨lw_p36, List.forall_mem_cons.mpr ⟨lw_p37, List.forall_mem_cons.mpr ⟨lw_p38, List.forall_mem_cons.mpr ⟨lw_p39, List.forall_mem_cons.mpr ⟨lw_p40, List.forall_mem_cons.mpr ⟨lw_p41, List.forall_mem_cons.mpr ⟨lw_p42, List.forall_mem_cons.mpr ⟨lw_p43, List.forall_mem_cons.mpr ⟨lw_p44, List.forall_mem_cons.mpr ⟨lw_p45, List.forall_mem_cons.mpr ⟨lw_p46, List.forall_mem_cons.mpr ⟨lw_p47, fun _ h => absurd h List.not_mem_nil⟩⟩⟩⟩⟩⟩⟩⟩⟩⟩⟩⟩⟩⟩⟩⟩
theorem lw_p48 : lw_okq (⟨"NeedMachineModel", "binary", "(III)I"⟩, 44) := ⟨⟨by decide +kernel, by decide +kernel⟩, List.mem_of_getElem? (i := 715) (by decide +kernel), List.mem_of_getElem? (i := 966) (by decide +kernel), List.mem_of_getElem? (i := 967) (by decide +kernel)⟩
theorem lw_p49 : lw_okq (⟨"NeedMachineModel", "nameAt", "(I)V"⟩, 44) := ⟨⟨by decide +kernel, by decide +kernel⟩, List.mem_of_getElem? (i := 715) (by decide +kernel), List.mem_of_getElem? (i := 970) (by decide +kernel), List.mem_of_getElem? (i := 971) (by decide +kernel)⟩
theorem lw_p50 : lw_okq (⟨"NeedMachineModel", "answer", "()I"⟩, 44) := ⟨⟨by decide +kernel, by decide +kernel⟩, List.mem_of_getElem? (i := 715) (by decide +kernel), List.mem_of_getElem? (i := 974) (by decide +kernel), List.mem_of_getElem? (i := 975) (by decide +kernel)⟩
theorem lw_p51 : lw_okq (⟨"NeedMachineModel", "side", "(Z)Z"⟩, 44) := ⟨⟨by decide +kernel, by decide +kernel⟩, List.mem_of_getElem? (i := 715) (by decide +kernel), List.mem_of_getElem? (i := 986) (by decide +kernel), List.mem_of_getElem? (i := 987) (by decide +kernel)⟩
def lw_privs_4 : List (MethodName × Nat) := [(⟨"NeedMachineModel", "binary", "(III)I"⟩, 44), (⟨"NeedMachineModel", "nameAt", "(I)V"⟩, 44), (⟨"NeedMachineModel", "answer", "()I"⟩, 44), (⟨"NeedMachineModel", "side", "(Z)Z"⟩, 44)]
theorem lw_r4 : ∀ q ∈ lw_privs_4, lw_okq q := List.forall_mem_cons.mpr ⟨lw_p48, List.forall_mem_cons.mpr ⟨lw_p49, List.forall_mem_cons.mpr ⟨lw_p50, List.forall_mem_cons.mpr ⟨lw_p51, fun _ h => absurd h List.not_mem_nil⟩⟩⟩⟩
def lw_privs : List (MethodName × Nat) := lw_privs_1 ++ (lw_privs_2 ++ (lw_privs_3 ++ (lw_privs_4)))
def lw_tbl : List Cond := k2_sels lw_privs ++ tables_1
theorem lw_privs_ok : ∀ q ∈ lw_privs, lw_okq q := by
  show ∀ q ∈ lw_privs_1 ++ (lw_privs_2 ++ (lw_privs_3 ++ (lw_privs_4))), lw_okq q
  exact List.forall_mem_append.mpr ⟨lw_r1, List.forall_mem_append.mpr ⟨lw_r2, List.forall_mem_append.mpr ⟨lw_r3, lw_r4⟩⟩⟩
-- ===== end of PART A; then your names; then what follows =====
end
section
/-! THE TABLES OF THE SMALL MACHINE, laid by wip/gen/gen.py out of the claim's own listing: 108 methods -/
def zm_no : Nat := 2
def zm_w : Nat := 41
def zm_C : Nat := 600004
def zm_S : Nat := 7302232
def zm_T0 : u_T := fun k => match k with
  | 0 => ("NeedMachine", "text", "LNeedMachine$Text;", true)
  | 1 => ("NeedMachine", "store", "LNeedMachine$Store;", true)
  | 2 => ("NeedMachine", "definitions", "[LNeedMachine$Definition;", true)
  | 3 => ("NeedMachine", "result", "LNeedMachine$Value;", false)
  | 4 => ("NeedMachine", "calls", "I", false)
  | 5 => ("NeedMachine", "callsOfAll", "I", false)
  | 6 => ("NeedMachine", "forcedFirst", "I", false)
  | 7 => ("NeedMachine", "forcedLater", "I", false)
  | 8 => ("NeedMachine", "deepest", "I", false)
  | _ => ("", "", "", false)
def zm_T1 : u_T := fun k => match k with
  | 0 => ("NeedMachine$Text", "length", "I", false)
  | 1 => ("NeedMachine$Text", "badPlace", "I", false)
  | 2 => ("NeedMachine$Text", "characters", "[C", true)
  | 3 => ("NeedMachine$Text", "parameters", "[C", true)
  | 4 => ("NeedMachine$Text", "parametersRead", "I", false)
  | 5 => ("NeedMachine$Text", "end", "I", false)
  | 6 => ("NeedMachine$Text", "place", "I", false)
  | 7 => ("NeedMachine$Text", "owed", "I", false)
  | _ => ("", "", "", false)
def zm_T2 : u_T := fun k => match k with
  | 0 => ("NeedMachine$Store", "nil", "LNeedMachine$Value;", true)
  | 1 => ("NeedMachine$Store", "values", "Ljava/util/ArrayList;", true)
  | 2 => ("NeedMachine$Store", "closures", "Ljava/util/ArrayList;", true)
  | 3 => ("NeedMachine$Store", "chains", "Ljava/util/ArrayList;", true)
  | 4 => ("NeedMachine$Store", "valuesUsed", "I", false)
  | 5 => ("NeedMachine$Store", "closuresUsed", "I", false)
  | 6 => ("NeedMachine$Store", "chainsUsed", "I", false)
  | _ => ("", "", "", false)
def zm_T3 : u_T := fun k => match k with
  | 0 => ("NeedMachine$Value", "kind", "I", false)
  | 1 => ("NeedMachine$Value", "number", "I", false)
  | 2 => ("NeedMachine$Value", "head", "LNeedMachine$Closure;", false)
  | 3 => ("NeedMachine$Value", "tail", "LNeedMachine$Closure;", false)
  | 4 => ("NeedMachine$Value", "arguments", "LNeedMachine$Arguments;", false)
  | _ => ("", "", "", false)
def zm_T4 : u_T := fun k => match k with
  | 0 => ("java/util/ArrayList", "elementData", "[Ljava/lang/Object;", false)
  | 1 => ("java/util/ArrayList", "size", "I", false)
  | 2 => ("java/util/AbstractList", "modCount", "I", false)
  | _ => ("", "", "", false)
def zm_T5 : u_T := fun k => match k with
  | 0 => ("NeedMachineModel", "text", "[I", true)
  | 1 => ("NeedMachineModel", "pool", "[I", true)
  | 2 => ("NeedMachineModel", "spare", "[I", true)
  | 3 => ("NeedMachineModel", "body", "[I", true)
  | 4 => ("NeedMachineModel", "letters", "[I", true)
  | 5 => ("NeedMachineModel", "parameters", "[I", true)
  | 6 => ("NeedMachineModel", "need", "[I", true)
  | 7 => ("NeedMachineModel", "defined", "[Z", true)
  | 8 => ("NeedMachineModel", "size", "I", false)
  | 9 => ("NeedMachineModel", "place", "I", false)
  | 10 => ("NeedMachineModel", "pos", "I", false)
  | 11 => ("NeedMachineModel", "pooled", "I", false)
  | 12 => ("NeedMachineModel", "thrown", "I", false)
  | 13 => ("NeedMachineModel", "expression", "[I", true)
  | 14 => ("NeedMachineModel", "around", "[I", true)
  | 15 => ("NeedMachineModel", "state", "[I", true)
  | 16 => ("NeedMachineModel", "kind", "[I", true)
  | 17 => ("NeedMachineModel", "first", "[I", true)
  | 18 => ("NeedMachineModel", "second", "[I", true)
  | 19 => ("NeedMachineModel", "name", "[I", true)
  | 20 => ("NeedMachineModel", "holds", "[I", true)
  | 21 => ("NeedMachineModel", "argument", "[I", true)
  | 22 => ("NeedMachineModel", "before", "[I", true)
  | 23 => ("NeedMachineModel", "closures", "I", false)
  | 24 => ("NeedMachineModel", "surroundings", "I", false)
  | 25 => ("NeedMachineModel", "arguments", "I", false)
  | 26 => ("NeedMachineModel", "at", "[I", true)
  | 27 => ("NeedMachineModel", "in", "[I", true)
  | 28 => ("NeedMachineModel", "stage", "[I", true)
  | 29 => ("NeedMachineModel", "kept", "[I", true)
  | 30 => ("NeedMachineModel", "forcing", "[I", true)
  | 31 => ("NeedMachineModel", "depth", "I", false)
  | 32 => ("NeedMachineModel", "deepest", "I", false)
  | 33 => ("NeedMachineModel", "callsNow", "I", false)
  | 34 => ("NeedMachineModel", "calls", "I", false)
  | 35 => ("NeedMachineModel", "forced", "I", false)
  | 36 => ("NeedMachineModel", "again", "I", false)
  | 37 => ("NeedMachineModel", "outKind", "I", false)
  | 38 => ("NeedMachineModel", "outFirst", "I", false)
  | 39 => ("NeedMachineModel", "outSecond", "I", false)
  | 40 => ("NeedMachineModel", "resultKind", "I", false)
  | 41 => ("NeedMachineModel", "resultFirst", "I", false)
  | 42 => ("NeedMachineModel", "resultSecond", "I", false)
  | 43 => ("NeedMachineModel", "has", "Z", false)
  | _ => ("", "", "", false)
def zm_T6 : u_T := fun k => match k with
  | 0 => ("NeedMachine$Definition", "name", "I", true)
  | 1 => ("NeedMachine$Definition", "parameters", "I", true)
  | 2 => ("NeedMachine$Definition", "body", "LNeedMachine$Expression;", true)
  | _ => ("", "", "", false)
def zm_T7 : u_T := fun k => match k with
  | 0 => ("NeedMachine$Expression", "sign", "C", true)
  | 1 => ("NeedMachine$Expression", "index", "I", true)
  | 2 => ("NeedMachine$Expression", "first", "LNeedMachine$Expression;", true)
  | 3 => ("NeedMachine$Expression", "second", "LNeedMachine$Expression;", true)
  | 4 => ("NeedMachine$Expression", "third", "LNeedMachine$Expression;", true)
  | _ => ("", "", "", false)
def zm_T8 : u_T := fun k => match k with
  | 0 => ("NeedMachine$Closure", "expression", "LNeedMachine$Expression;", false)
  | 1 => ("NeedMachine$Closure", "given", "LNeedMachine$Arguments;", false)
  | 2 => ("NeedMachine$Closure", "begun", "Z", false)
  | 3 => ("NeedMachine$Closure", "value", "LNeedMachine$Value;", false)
  | _ => ("", "", "", false)
def zm_T9 : u_T := fun k => match k with
  | 0 => ("NeedMachine$Arguments", "before", "LNeedMachine$Arguments;", false)
  | 1 => ("NeedMachine$Arguments", "last", "LNeedMachine$Closure;", false)
  | 2 => ("NeedMachine$Arguments", "size", "I", false)
  | _ => ("", "", "", false)
def zm_cl : List vw_C := [("NeedMachine", zm_T0, 9), ("NeedMachine$Text", zm_T1, 8), ("NeedMachine$Store", zm_T2, 7), ("NeedMachine$Value", zm_T3, 5), ("java/util/ArrayList", zm_T4, 3), ("NeedMachineModel", zm_T5, 44), ("NeedMachine$Definition", zm_T6, 3), ("NeedMachine$Expression", zm_T7, 5), ("NeedMachine$Closure", zm_T8, 4), ("NeedMachine$Arguments", zm_T9, 3)]
def zm_ft : List (List FieldType) := [[.object "NeedMachine$Text", .object "NeedMachine$Store", .array (.object "NeedMachine$Definition"), .object "NeedMachine$Value", .int, .int, .int, .int, .int], [.int, .int, .array .char, .array .char, .int, .int, .int, .int], [.object "NeedMachine$Value", .object "java/util/ArrayList", .object "java/util/ArrayList", .object "java/util/ArrayList", .int, .int, .int], [.int, .int, .object "NeedMachine$Closure", .object "NeedMachine$Closure", .object "NeedMachine$Arguments"], [.array (.object "java/lang/Object"), .int, .int], [.array .int, .array .int, .array .int, .array .int, .array .int, .array .int, .array .int, .array .boolean, .int, .int, .int, .int, .int, .array .int, .array .int, .array .int, .array .int, .array .int, .array .int, .array .int, .array .int, .array .int, .array .int, .int, .int, .int, .array .int, .array .int, .array .int, .array .int, .array .int, .int, .int, .int, .int, .int, .int, .int, .int, .int, .int, .int, .int, .boolean], [.int, .int, .object "NeedMachine$Expression"], [.char, .int, .object "NeedMachine$Expression", .object "NeedMachine$Expression", .object "NeedMachine$Expression"], [.object "NeedMachine$Expression", .object "NeedMachine$Arguments", .boolean, .object "NeedMachine$Value"], [.object "NeedMachine$Arguments", .object "NeedMachine$Closure", .int]]
def zm_aty : List FieldType := [.int, .char, .long, .boolean, .object "NeedMachine$Definition", .object "java/lang/Object"]
/-- statics that are read: the old cell, where it stands -/
def zm_os : List (Nat × String × String × String) := [(1, "java/util/ArrayList", "DEFAULTCAPACITY_EMPTY_ELEMENTDATA", "[Ljava/lang/Object;")]
def zm_sub : List (Nat × Nat) := [(4, 6)]
def zm_xn : List String := ["java/lang/IllegalArgumentException", "java/lang/IllegalStateException", "java/util/NoSuchElementException", "java/lang/UnsupportedOperationException", "java/lang/ArithmeticException"]
/-- words that the start gives beside the tables' -/
def zm_ex : List Cond := [.not (.castable "java/lang/IllegalArgumentException" "java/lang/IllegalStateException"), .not (.castable "java/lang/IllegalArgumentException" "java/util/NoSuchElementException"), .not (.castable "java/lang/IllegalArgumentException" "java/lang/UnsupportedOperationException"), .not (.castable "java/lang/IllegalArgumentException" "java/lang/ArithmeticException"), .not (.castable "java/lang/IllegalStateException" "java/lang/IllegalArgumentException"), .not (.castable "java/lang/IllegalStateException" "java/util/NoSuchElementException"), .not (.castable "java/lang/IllegalStateException" "java/lang/UnsupportedOperationException"), .not (.castable "java/lang/IllegalStateException" "java/lang/ArithmeticException"), .not (.castable "java/util/NoSuchElementException" "java/lang/IllegalArgumentException"), .not (.castable "java/util/NoSuchElementException" "java/lang/IllegalStateException"), .not (.castable "java/util/NoSuchElementException" "java/lang/UnsupportedOperationException"), .not (.castable "java/util/NoSuchElementException" "java/lang/ArithmeticException"), .not (.castable "java/lang/UnsupportedOperationException" "java/lang/IllegalArgumentException"), .not (.castable "java/lang/UnsupportedOperationException" "java/lang/IllegalStateException"), .not (.castable "java/lang/UnsupportedOperationException" "java/util/NoSuchElementException"), .not (.castable "java/lang/UnsupportedOperationException" "java/lang/ArithmeticException"), .not (.castable "java/lang/ArithmeticException" "java/lang/IllegalArgumentException"), .not (.castable "java/lang/ArithmeticException" "java/lang/IllegalStateException"), .not (.castable "java/lang/ArithmeticException" "java/util/NoSuchElementException"), .not (.castable "java/lang/ArithmeticException" "java/lang/UnsupportedOperationException"), .isRef (.static "java/lang/Throwable" "UNASSIGNED_STACK" "[Ljava/lang/StackTraceElement;"), .isRef (.static "java/lang/Throwable" "SUPPRESSED_SENTINEL" "Ljava/util/List;")]
def zm_tb : List Cond := lw_tbl ++ zm_ex
def zm_m0 : MethodName × ByteArray × Nat × Option FieldType × List (Nat × Nat × Nat × Nat) := (⟨"NeedMachineLaw", "law", "([I)Z"⟩, code, 7, ret, [])
def zm_m1 : MethodName × ByteArray × Nat × Option FieldType × List (Nat × Nat × Nat × Nat) := (⟨"NeedMachine", "<init>", "()V"⟩, prog_1_method_1_code, 1, none, [])
def zm_m2 : MethodName × ByteArray × Nat × Option FieldType × List (Nat × Nat × Nat × Nat) := (⟨"java/lang/Object", "<init>", "()V"⟩, object_method_1_code, 1, none, [])
def zm_m3 : MethodName × ByteArray × Nat × Option FieldType × List (Nat × Nat × Nat × Nat) := (⟨"NeedMachine$Text", "<init>", "()V"⟩, prog_7_method_1_code, 1, none, [])
def zm_m4 : MethodName × ByteArray × Nat × Option FieldType × List (Nat × Nat × Nat × Nat) := (⟨"NeedMachine$Store", "<init>", "()V"⟩, prog_6_method_1_code, 1, none, [])
def zm_m5 : MethodName × ByteArray × Nat × Option FieldType × List (Nat × Nat × Nat × Nat) := (⟨"NeedMachine$Value", "<init>", "()V"⟩, prog_8_method_1_code, 1, none, [])
def zm_m6 : MethodName × ByteArray × Nat × Option FieldType × List (Nat × Nat × Nat × Nat) := (⟨"java/util/ArrayList", "<init>", "()V"⟩, prog_26_method_2_code, 1, none, [])
def zm_m7 : MethodName × ByteArray × Nat × Option FieldType × List (Nat × Nat × Nat × Nat) := (⟨"java/util/AbstractList", "<init>", "()V"⟩, prog_25_method_1_code, 1, none, [])
def zm_m8 : MethodName × ByteArray × Nat × Option FieldType × List (Nat × Nat × Nat × Nat) := (⟨"java/util/AbstractCollection", "<init>", "()V"⟩, prog_24_method_1_code, 1, none, [])
def zm_m9 : MethodName × ByteArray × Nat × Option FieldType × List (Nat × Nat × Nat × Nat) := (⟨"NeedMachine", "count", "(I)I"⟩, prog_1_method_9_code, 2, (some .int), [])
def zm_m10 : MethodName × ByteArray × Nat × Option FieldType × List (Nat × Nat × Nat × Nat) := (⟨"NeedMachine", "countDefinitions", "()I"⟩, prog_1_method_10_code, 6, (some .int), [])
def zm_m11 : MethodName × ByteArray × Nat × Option FieldType × List (Nat × Nat × Nat × Nat) := (⟨"NeedMachineLaw", "type", "(LNeedMachine;J[J)I"⟩, method_3_code, 5, (some .int), [(0, 9, 12, 13), (0, 9, 16, 15)])
def zm_m12 : MethodName × ByteArray × Nat × Option FieldType × List (Nat × Nat × Nat × Nat) := (⟨"NeedMachine", "type", "(J)I"⟩, prog_1_method_2_code, 3, (some .int), [])
def zm_m13 : MethodName × ByteArray × Nat × Option FieldType × List (Nat × Nat × Nat × Nat) := (⟨"NeedMachine$Text", "add", "(J)I"⟩, prog_7_method_2_code, 6, (some .int), [])
def zm_m14 : MethodName × ByteArray × Nat × Option FieldType × List (Nat × Nat × Nat × Nat) := (⟨"NeedMachine$Text", "byteAt", "(JI)I"⟩, prog_7_method_3_code, 3, (some .int), [])
def zm_m15 : MethodName × ByteArray × Nat × Option FieldType × List (Nat × Nat × Nat × Nat) := (⟨"NeedMachineLaw", "define", "(LNeedMachine;[J)I"⟩, method_4_code, 3, (some .int), [(0, 8, 11, 13)])
def zm_m16 : MethodName × ByteArray × Nat × Option FieldType × List (Nat × Nat × Nat × Nat) := (⟨"NeedMachine", "define", "()I"⟩, prog_1_method_3_code, 2, (some .int), [])
def zm_m17 : MethodName × ByteArray × Nat × Option FieldType × List (Nat × Nat × Nat × Nat) := (⟨"NeedMachine$Text", "readDefinition", "()LNeedMachine$Definition;"⟩, prog_7_method_4_code, 2, (some (.object "NeedMachine$Definition")), [])
def zm_m18 : MethodName × ByteArray × Nat × Option FieldType × List (Nat × Nat × Nat × Nat) := (⟨"NeedMachine$Text", "beginReading", "()V"⟩, prog_7_method_6_code, 1, none, [])
def zm_m19 : MethodName × ByteArray × Nat × Option FieldType × List (Nat × Nat × Nat × Nat) := (⟨"NeedMachine$Text", "isName", "(C)Z"⟩, prog_7_method_16_code, 1, (some .boolean), [])
def zm_m20 : MethodName × ByteArray × Nat × Option FieldType × List (Nat × Nat × Nat × Nat) := (⟨"NeedMachine$Text", "refuseUnless", "(Z)V"⟩, prog_7_method_18_code, 2, none, [])
def zm_m21 : MethodName × ByteArray × Nat × Option FieldType × List (Nat × Nat × Nat × Nat) := (⟨"NeedMachine$Text", "readParameters", "()V"⟩, prog_7_method_7_code, 1, none, [])
def zm_m22 : MethodName × ByteArray × Nat × Option FieldType × List (Nat × Nat × Nat × Nat) := (⟨"NeedMachine$Text", "isNewParameter", "(C)Z"⟩, prog_7_method_13_code, 2, (some .boolean), [])
def zm_m23 : MethodName × ByteArray × Nat × Option FieldType × List (Nat × Nat × Nat × Nat) := (⟨"NeedMachine$Text", "parameterIndex", "(C)I"⟩, prog_7_method_14_code, 3, (some .int), [])
def zm_m24 : MethodName × ByteArray × Nat × Option FieldType × List (Nat × Nat × Nat × Nat) := (⟨"NeedMachine$Text", "readToTheEnd", "()LNeedMachine$Expression;"⟩, prog_7_method_8_code, 2, (some (.object "NeedMachine$Expression")), [])
def zm_m25 : MethodName × ByteArray × Nat × Option FieldType × List (Nat × Nat × Nat × Nat) := (⟨"NeedMachine$Text", "readExpression", "(I)LNeedMachine$Expression;"⟩, prog_7_method_9_code, 7, (some (.object "NeedMachine$Expression")), [])
def zm_m26 : MethodName × ByteArray × Nat × Option FieldType × List (Nat × Nat × Nat × Nat) := (⟨"NeedMachine$Text", "canStand", "(CI)Z"⟩, prog_7_method_11_code, 4, (some .boolean), [])
def zm_m27 : MethodName × ByteArray × Nat × Option FieldType × List (Nat × Nat × Nat × Nat) := (⟨"NeedMachine$Text", "partsOf", "(C)I"⟩, prog_7_method_17_code, 1, (some .int), [])
def zm_m28 : MethodName × ByteArray × Nat × Option FieldType × List (Nat × Nat × Nat × Nat) := (⟨"NeedMachine$Text", "isLeaf", "(C)Z"⟩, prog_7_method_12_code, 2, (some .boolean), [])
def zm_m29 : MethodName × ByteArray × Nat × Option FieldType × List (Nat × Nat × Nat × Nat) := (⟨"NeedMachine$Text", "isDigit", "(C)Z"⟩, prog_7_method_15_code, 1, (some .boolean), [])
def zm_m30 : MethodName × ByteArray × Nat × Option FieldType × List (Nat × Nat × Nat × Nat) := (⟨"NeedMachine$Text", "readLeaf", "(C)LNeedMachine$Expression;"⟩, prog_7_method_10_code, 3, (some (.object "NeedMachine$Expression")), [])
def zm_m31 : MethodName × ByteArray × Nat × Option FieldType × List (Nat × Nat × Nat × Nat) := (⟨"NeedMachine$Expression", "<init>", "(CILNeedMachine$Expression;LNeedMachine$Expression;LNeedMachine$Expression;)V"⟩, prog_5_method_1_code, 6, none, [])
def zm_m32 : MethodName × ByteArray × Nat × Option FieldType × List (Nat × Nat × Nat × Nat) := (⟨"NeedMachine$Definition", "<init>", "(IILNeedMachine$Expression;)V"⟩, prog_4_method_1_code, 4, none, [])
def zm_m33 : MethodName × ByteArray × Nat × Option FieldType × List (Nat × Nat × Nat × Nat) := (⟨"NeedMachineLaw", "ask", "(LNeedMachine;[J)I"⟩, method_5_code, 3, (some .int), [(0, 8, 11, 13), (0, 8, 14, 24), (0, 8, 17, 26), (0, 8, 20, 15), (0, 8, 23, 28)])
def zm_m34 : MethodName × ByteArray × Nat × Option FieldType × List (Nat × Nat × Nat × Nat) := (⟨"NeedMachine", "ask", "()I"⟩, prog_1_method_4_code, 2, (some .int), [])
def zm_m35 : MethodName × ByteArray × Nat × Option FieldType × List (Nat × Nat × Nat × Nat) := (⟨"NeedMachine$Text", "readAsked", "()LNeedMachine$Expression;"⟩, prog_7_method_5_code, 1, (some (.object "NeedMachine$Expression")), [])
def zm_m36 : MethodName × ByteArray × Nat × Option FieldType × List (Nat × Nat × Nat × Nat) := (⟨"NeedMachine$Store", "takeAllBack", "()V"⟩, prog_6_method_2_code, 1, none, [])
def zm_m37 : MethodName × ByteArray × Nat × Option FieldType × List (Nat × Nat × Nat × Nat) := (⟨"NeedMachine", "work", "(LNeedMachine$Expression;LNeedMachine$Arguments;I)LNeedMachine$Value;"⟩, prog_1_method_12_code, 4, (some (.object "NeedMachine$Value")), [])
def zm_m38 : MethodName × ByteArray × Nat × Option FieldType × List (Nat × Nat × Nat × Nat) := (⟨"NeedMachine$Store", "makeNumber", "(I)LNeedMachine$Value;"⟩, prog_6_method_3_code, 3, (some (.object "NeedMachine$Value")), [])
def zm_m39 : MethodName × ByteArray × Nat × Option FieldType × List (Nat × Nat × Nat × Nat) := (⟨"NeedMachine$Store", "nextValue", "(I)LNeedMachine$Value;"⟩, prog_6_method_8_code, 3, (some (.object "NeedMachine$Value")), [])
def zm_m40 : MethodName × ByteArray × Nat × Option FieldType × List (Nat × Nat × Nat × Nat) := (⟨"NeedMachine", "argumentAt", "(LNeedMachine$Arguments;I)LNeedMachine$Closure;"⟩, prog_1_method_22_code, 3, (some (.object "NeedMachine$Closure")), [])
def zm_m41 : MethodName × ByteArray × Nat × Option FieldType × List (Nat × Nat × Nat × Nat) := (⟨"NeedMachine", "force", "(LNeedMachine$Closure;I)LNeedMachine$Value;"⟩, prog_1_method_19_code, 4, (some (.object "NeedMachine$Value")), [])
def zm_m42 : MethodName × ByteArray × Nat × Option FieldType × List (Nat × Nat × Nat × Nat) := (⟨"NeedMachine", "mustBeWorkedOut", "(LNeedMachine$Closure;)LNeedMachine$Value;"⟩, prog_1_method_23_code, 1, (some (.object "NeedMachine$Value")), [])
def zm_m43 : MethodName × ByteArray × Nat × Option FieldType × List (Nat × Nat × Nat × Nat) := (⟨"NeedMachine", "workName", "(II)LNeedMachine$Value;"⟩, prog_1_method_13_code, 4, (some (.object "NeedMachine$Value")), [])
def zm_m44 : MethodName × ByteArray × Nat × Option FieldType × List (Nat × Nat × Nat × Nat) := (⟨"NeedMachine", "definitionOf", "(I)LNeedMachine$Definition;"⟩, prog_1_method_21_code, 3, (some (.object "NeedMachine$Definition")), [])
def zm_m45 : MethodName × ByteArray × Nat × Option FieldType × List (Nat × Nat × Nat × Nat) := (⟨"NeedMachine", "call", "(LNeedMachine$Definition;LNeedMachine$Arguments;I)LNeedMachine$Value;"⟩, prog_1_method_15_code, 4, (some (.object "NeedMachine$Value")), [])
def zm_m46 : MethodName × ByteArray × Nat × Option FieldType × List (Nat × Nat × Nat × Nat) := (⟨"NeedMachine$Store", "makeFunction", "(ILNeedMachine$Arguments;)LNeedMachine$Value;"⟩, prog_6_method_5_code, 4, (some (.object "NeedMachine$Value")), [])
def zm_m47 : MethodName × ByteArray × Nat × Option FieldType × List (Nat × Nat × Nat × Nat) := (⟨"NeedMachine", "closureOf", "(LNeedMachine$Expression;LNeedMachine$Arguments;)LNeedMachine$Closure;"⟩, prog_1_method_20_code, 3, (some (.object "NeedMachine$Closure")), [])
def zm_m48 : MethodName × ByteArray × Nat × Option FieldType × List (Nat × Nat × Nat × Nat) := (⟨"NeedMachine$Store", "makeClosure", "(LNeedMachine$Expression;LNeedMachine$Arguments;)LNeedMachine$Closure;"⟩, prog_6_method_6_code, 4, (some (.object "NeedMachine$Closure")), [])
def zm_m49 : MethodName × ByteArray × Nat × Option FieldType × List (Nat × Nat × Nat × Nat) := (⟨"NeedMachine$Closure", "<init>", "()V"⟩, prog_3_method_1_code, 1, none, [])
def zm_m50 : MethodName × ByteArray × Nat × Option FieldType × List (Nat × Nat × Nat × Nat) := (⟨"NeedMachine$Store", "makePair", "(LNeedMachine$Closure;LNeedMachine$Closure;)LNeedMachine$Value;"⟩, prog_6_method_4_code, 4, (some (.object "NeedMachine$Value")), [])
def zm_m51 : MethodName × ByteArray × Nat × Option FieldType × List (Nat × Nat × Nat × Nat) := (⟨"NeedMachine", "apply", "(LNeedMachine$Expression;LNeedMachine$Arguments;I)LNeedMachine$Value;"⟩, prog_1_method_14_code, 7, (some (.object "NeedMachine$Value")), [])
def zm_m52 : MethodName × ByteArray × Nat × Option FieldType × List (Nat × Nat × Nat × Nat) := (⟨"NeedMachine$Store", "makeArguments", "(LNeedMachine$Arguments;LNeedMachine$Closure;)LNeedMachine$Arguments;"⟩, prog_6_method_7_code, 4, (some (.object "NeedMachine$Arguments")), [])
def zm_m53 : MethodName × ByteArray × Nat × Option FieldType × List (Nat × Nat × Nat × Nat) := (⟨"NeedMachine$Arguments", "<init>", "()V"⟩, prog_2_method_1_code, 1, none, [])
def zm_m54 : MethodName × ByteArray × Nat × Option FieldType × List (Nat × Nat × Nat × Nat) := (⟨"NeedMachine", "mustBePair", "(LNeedMachine$Value;)LNeedMachine$Value;"⟩, prog_1_method_25_code, 1, (some (.object "NeedMachine$Value")), [])
def zm_m55 : MethodName × ByteArray × Nat × Option FieldType × List (Nat × Nat × Nat × Nat) := (⟨"NeedMachine", "isNil", "(LNeedMachine$Value;)I"⟩, prog_1_method_26_code, 1, (some .int), [])
def zm_m56 : MethodName × ByteArray × Nat × Option FieldType × List (Nat × Nat × Nat × Nat) := (⟨"NeedMachine", "choose", "(LNeedMachine$Expression;LNeedMachine$Arguments;I)LNeedMachine$Value;"⟩, prog_1_method_16_code, 5, (some (.object "NeedMachine$Value")), [])
def zm_m57 : MethodName × ByteArray × Nat × Option FieldType × List (Nat × Nat × Nat × Nat) := (⟨"NeedMachine", "mustBeNumber", "(LNeedMachine$Value;)I"⟩, prog_1_method_24_code, 1, (some .int), [])
def zm_m58 : MethodName × ByteArray × Nat × Option FieldType × List (Nat × Nat × Nat × Nat) := (⟨"NeedMachine", "reckon", "(LNeedMachine$Expression;LNeedMachine$Arguments;I)LNeedMachine$Value;"⟩, prog_1_method_17_code, 6, (some (.object "NeedMachine$Value")), [])
def zm_m59 : MethodName × ByteArray × Nat × Option FieldType × List (Nat × Nat × Nat × Nat) := (⟨"NeedMachine", "reckonNumbers", "(CII)I"⟩, prog_1_method_18_code, 3, (some .int), [])
def zm_m60 : MethodName × ByteArray × Nat × Option FieldType × List (Nat × Nat × Nat × Nat) := (⟨"NeedMachine", "mustNotBeZero", "(I)I"⟩, prog_1_method_27_code, 1, (some .int), [])
def zm_m61 : MethodName × ByteArray × Nat × Option FieldType × List (Nat × Nat × Nat × Nat) := (⟨"NeedMachineLaw", "number", "(LNeedMachine;[J)I"⟩, method_6_code, 3, (some .int), [(0, 8, 11, 24), (0, 8, 14, 28)])
def zm_m62 : MethodName × ByteArray × Nat × Option FieldType × List (Nat × Nat × Nat × Nat) := (⟨"NeedMachine", "number", "()I"⟩, prog_1_method_5_code, 1, (some .int), [])
def zm_m63 : MethodName × ByteArray × Nat × Option FieldType × List (Nat × Nat × Nat × Nat) := (⟨"NeedMachineLaw", "head", "(LNeedMachine;[J)I"⟩, method_7_code, 3, (some .int), [(0, 8, 11, 24), (0, 8, 14, 26), (0, 8, 17, 15), (0, 8, 20, 28)])
def zm_m64 : MethodName × ByteArray × Nat × Option FieldType × List (Nat × Nat × Nat × Nat) := (⟨"NeedMachine", "head", "()I"⟩, prog_1_method_6_code, 3, (some .int), [])
def zm_m65 : MethodName × ByteArray × Nat × Option FieldType × List (Nat × Nat × Nat × Nat) := (⟨"NeedMachine", "takeResultPair", "()LNeedMachine$Value;"⟩, prog_1_method_11_code, 2, (some (.object "NeedMachine$Value")), [])
def zm_m66 : MethodName × ByteArray × Nat × Option FieldType × List (Nat × Nat × Nat × Nat) := (⟨"NeedMachineLaw", "tail", "(LNeedMachine;[J)I"⟩, method_8_code, 3, (some .int), [(0, 8, 11, 24), (0, 8, 14, 26), (0, 8, 17, 15), (0, 8, 20, 28)])
def zm_m67 : MethodName × ByteArray × Nat × Option FieldType × List (Nat × Nat × Nat × Nat) := (⟨"NeedMachine", "tail", "()I"⟩, prog_1_method_7_code, 2, (some .int), [])
def zm_m68 : MethodName × ByteArray × Nat × Option FieldType × List (Nat × Nat × Nat × Nat) := (⟨"NeedMachineLaw", "remove", "(LNeedMachine;I)I"⟩, method_9_code, 3, (some .int), [(0, 5, 8, 13), (0, 5, 11, 24)])
def zm_m69 : MethodName × ByteArray × Nat × Option FieldType × List (Nat × Nat × Nat × Nat) := (⟨"NeedMachine", "remove", "(I)V"⟩, prog_1_method_8_code, 2, none, [])
def zm_m70 : MethodName × ByteArray × Nat × Option FieldType × List (Nat × Nat × Nat × Nat) := (⟨"NeedMachineModel", "<init>", "()V"⟩, prog_10_method_1_code, 1, none, [])
def zm_m71 : MethodName × ByteArray × Nat × Option FieldType × List (Nat × Nat × Nat × Nat) := (⟨"NeedMachineModel", "thrown", "()I"⟩, prog_10_method_2_code, 1, (some .int), [])
def zm_m72 : MethodName × ByteArray × Nat × Option FieldType × List (Nat × Nat × Nat × Nat) := (⟨"NeedMachineModel", "type", "(J)I"⟩, prog_10_method_6_code, 7, (some .int), [])
def zm_m73 : MethodName × ByteArray × Nat × Option FieldType × List (Nat × Nat × Nat × Nat) := (⟨"NeedMachineModel", "between", "(III)Z"⟩, prog_10_method_3_code, 3, (some .boolean), [])
def zm_m74 : MethodName × ByteArray × Nat × Option FieldType × List (Nat × Nat × Nat × Nat) := (⟨"NeedMachineModel", "bad", "(Z)Z"⟩, prog_10_method_4_code, 2, (some .boolean), [])
def zm_m75 : MethodName × ByteArray × Nat × Option FieldType × List (Nat × Nat × Nat × Nat) := (⟨"NeedMachineModel", "fail", "(I)I"⟩, prog_10_method_5_code, 2, (some .int), [])
def zm_m76 : MethodName × ByteArray × Nat × Option FieldType × List (Nat × Nat × Nat × Nat) := (⟨"NeedMachineModel", "define", "()I"⟩, prog_10_method_12_code, 8, (some .int), [])
def zm_m77 : MethodName × ByteArray × Nat × Option FieldType × List (Nat × Nat × Nat × Nat) := (⟨"NeedMachineModel", "heading", "([I)I"⟩, prog_10_method_10_code, 4, (some .int), [])
def zm_m78 : MethodName × ByteArray × Nat × Option FieldType × List (Nat × Nat × Nat × Nat) := (⟨"NeedMachineModel", "look", "()I"⟩, prog_10_method_7_code, 1, (some .int), [])
def zm_m79 : MethodName × ByteArray × Nat × Option FieldType × List (Nat × Nat × Nat × Nat) := (⟨"NeedMachineModel", "read", "(I)Z"⟩, prog_10_method_9_code, 5, (some .boolean), [])
def zm_m80 : MethodName × ByteArray × Nat × Option FieldType × List (Nat × Nat × Nat × Nat) := (⟨"NeedMachineModel", "parts", "(I)I"⟩, prog_10_method_8_code, 1, (some .int), [])
def zm_m81 : MethodName × ByteArray × Nat × Option FieldType × List (Nat × Nat × Nat × Nat) := (⟨"NeedMachineModel", "store", "(I)I"⟩, prog_10_method_11_code, 4, (some .int), [])
def zm_m82 : MethodName × ByteArray × Nat × Option FieldType × List (Nat × Nat × Nat × Nat) := (⟨"NeedMachineModel", "ask", "()I"⟩, prog_10_method_32_code, 3, (some .int), [])
def zm_m83 : MethodName × ByteArray × Nat × Option FieldType × List (Nat × Nat × Nat × Nat) := (⟨"NeedMachineModel", "sweep", "()V"⟩, prog_10_method_13_code, 6, none, [])
def zm_m84 : MethodName × ByteArray × Nat × Option FieldType × List (Nat × Nat × Nat × Nat) := (⟨"NeedMachineModel", "skip", "(I)I"⟩, prog_10_method_14_code, 4, (some .int), [])
def zm_m85 : MethodName × ByteArray × Nat × Option FieldType × List (Nat × Nat × Nat × Nat) := (⟨"NeedMachineModel", "workOut", "(II)V"⟩, prog_10_method_30_code, 3, none, [])
def zm_m86 : MethodName × ByteArray × Nat × Option FieldType × List (Nat × Nat × Nat × Nat) := (⟨"NeedMachineModel", "push", "(II)V"⟩, prog_10_method_15_code, 3, none, [])
def zm_m87 : MethodName × ByteArray × Nat × Option FieldType × List (Nat × Nat × Nat × Nat) := (⟨"NeedMachineModel", "step", "()V"⟩, prog_10_method_29_code, 5, none, [])
def zm_m88 : MethodName × ByteArray × Nat × Option FieldType × List (Nat × Nat × Nat × Nat) := (⟨"NeedMachineModel", "keepValue", "()V"⟩, prog_10_method_21_code, 2, none, [])
def zm_m89 : MethodName × ByteArray × Nat × Option FieldType × List (Nat × Nat × Nat × Nat) := (⟨"NeedMachineModel", "giveClosure", "(I)V"⟩, prog_10_method_19_code, 2, none, [])
def zm_m90 : MethodName × ByteArray × Nat × Option FieldType × List (Nat × Nat × Nat × Nat) := (⟨"NeedMachineModel", "give", "(III)V"⟩, prog_10_method_16_code, 4, none, [])
def zm_m91 : MethodName × ByteArray × Nat × Option FieldType × List (Nat × Nat × Nat × Nat) := (⟨"NeedMachineModel", "goOn", "(II)V"⟩, prog_10_method_28_code, 5, none, [])
def zm_m92 : MethodName × ByteArray × Nat × Option FieldType × List (Nat × Nat × Nat × Nat) := (⟨"NeedMachineModel", "apply", "(I)V"⟩, prog_10_method_24_code, 6, none, [])
def zm_m93 : MethodName × ByteArray × Nat × Option FieldType × List (Nat × Nat × Nat × Nat) := (⟨"NeedMachineModel", "closureOf", "(II)I"⟩, prog_10_method_18_code, 3, (some .int), [])
def zm_m94 : MethodName × ByteArray × Nat × Option FieldType × List (Nat × Nat × Nat × Nat) := (⟨"NeedMachineModel", "parameterOf", "(II)I"⟩, prog_10_method_17_code, 4, (some .int), [])
def zm_m95 : MethodName × ByteArray × Nat × Option FieldType × List (Nat × Nat × Nat × Nat) := (⟨"NeedMachineModel", "countOf", "(I)I"⟩, prog_10_method_23_code, 4, (some .int), [])
def zm_m96 : MethodName × ByteArray × Nat × Option FieldType × List (Nat × Nat × Nat × Nat) := (⟨"NeedMachineModel", "call", "(III)V"⟩, prog_10_method_22_code, 7, none, [])
def zm_m97 : MethodName × ByteArray × Nat × Option FieldType × List (Nat × Nat × Nat × Nat) := (⟨"NeedMachineModel", "force", "(I)V"⟩, prog_10_method_20_code, 2, none, [])
def zm_m98 : MethodName × ByteArray × Nat × Option FieldType × List (Nat × Nat × Nat × Nat) := (⟨"NeedMachineModel", "isNumber", "()Z"⟩, prog_10_method_27_code, 1, (some .boolean), [])
def zm_m99 : MethodName × ByteArray × Nat × Option FieldType × List (Nat × Nat × Nat × Nat) := (⟨"NeedMachineModel", "binary", "(III)I"⟩, prog_10_method_26_code, 4, (some .int), [])
def zm_m100 : MethodName × ByteArray × Nat × Option FieldType × List (Nat × Nat × Nat × Nat) := (⟨"NeedMachineModel", "nameAt", "(I)V"⟩, prog_10_method_25_code, 2, none, [])
def zm_m101 : MethodName × ByteArray × Nat × Option FieldType × List (Nat × Nat × Nat × Nat) := (⟨"NeedMachineModel", "answer", "()I"⟩, prog_10_method_31_code, 1, (some .int), [])
def zm_m102 : MethodName × ByteArray × Nat × Option FieldType × List (Nat × Nat × Nat × Nat) := (⟨"NeedMachineModel", "number", "()I"⟩, prog_10_method_33_code, 1, (some .int), [])
def zm_m103 : MethodName × ByteArray × Nat × Option FieldType × List (Nat × Nat × Nat × Nat) := (⟨"NeedMachineModel", "head", "()I"⟩, prog_10_method_35_code, 1, (some .int), [])
def zm_m104 : MethodName × ByteArray × Nat × Option FieldType × List (Nat × Nat × Nat × Nat) := (⟨"NeedMachineModel", "side", "(Z)Z"⟩, prog_10_method_34_code, 3, (some .boolean), [])
def zm_m105 : MethodName × ByteArray × Nat × Option FieldType × List (Nat × Nat × Nat × Nat) := (⟨"NeedMachineModel", "tail", "()I"⟩, prog_10_method_36_code, 1, (some .int), [])
def zm_m106 : MethodName × ByteArray × Nat × Option FieldType × List (Nat × Nat × Nat × Nat) := (⟨"NeedMachineModel", "remove", "(I)V"⟩, prog_10_method_37_code, 2, none, [])
def zm_m107 : MethodName × ByteArray × Nat × Option FieldType × List (Nat × Nat × Nat × Nat) := (⟨"NeedMachineModel", "count", "(I)I"⟩, prog_10_method_38_code, 4, (some .int), [])
def zm_mt : List (MethodName × ByteArray × Nat × Option FieldType × List (Nat × Nat × Nat × Nat)) := [zm_m0, zm_m1, zm_m2, zm_m3, zm_m4, zm_m5, zm_m6, zm_m7, zm_m8, zm_m9, zm_m10, zm_m11, zm_m12, zm_m13, zm_m14, zm_m15, zm_m16, zm_m17, zm_m18, zm_m19, zm_m20, zm_m21, zm_m22, zm_m23, zm_m24, zm_m25, zm_m26, zm_m27, zm_m28, zm_m29, zm_m30, zm_m31, zm_m32, zm_m33, zm_m34, zm_m35, zm_m36, zm_m37, zm_m38, zm_m39, zm_m40, zm_m41, zm_m42, zm_m43, zm_m44, zm_m45, zm_m46, zm_m47, zm_m48, zm_m49, zm_m50, zm_m51, zm_m52, zm_m53, zm_m54, zm_m55, zm_m56, zm_m57, zm_m58, zm_m59, zm_m60, zm_m61, zm_m62, zm_m63, zm_m64, zm_m65, zm_m66, zm_m67, zm_m68, zm_m69, zm_m70, zm_m71, zm_m72, zm_m73, zm_m74, zm_m75, zm_m76, zm_m77, zm_m78, zm_m79, zm_m80, zm_m81, zm_m82, zm_m83, zm_m84, zm_m85, zm_m86, zm_m87, zm_m88, zm_m89, zm_m90, zm_m91, zm_m92, zm_m93, zm_m94, zm_m95, zm_m96, zm_m97, zm_m98, zm_m99, zm_m100, zm_m101, zm_m102, zm_m103, zm_m104, zm_m105, zm_m106, zm_m107]
def zm_md (mi : Nat) : MethodName × ByteArray × Nat × Option FieldType × List (Nat × Nat × Nat × Nat) := zm_mt.getD mi (⟨"", "", ""⟩, ⟨#[]⟩, 0, none, [])
def zm_mn (mi : Nat) : MethodName := (zm_md mi).1
def zm_by (mi : Nat) : ByteArray := (zm_md mi).2.1
def zm_nl (mi : Nat) : Nat := (zm_md mi).2.2.1
def zm_rt (mi : Nat) : Option FieldType := (zm_md mi).2.2.2.1
def zm_hd (mi : Nat) : List (Nat × Nat × Nat × Nat) := (zm_md mi).2.2.2.2
abbrev zm_I : Type := Instr × Nat × Nat × Int
/-- NeedMachineLaw.law([I)Z -/
def zm_c0 : List (Nat × zm_I) := [(0, .new 8, 0, 0, 0), (3, .dup, 0, 0, 0), (4, .invokespecial 43, 0, 0, 0), (7, .astore_n 1, 0, 0, 0), (8, .new 44, 5, 0, 0), (11, .dup, 0, 0, 0), (12, .invokespecial 46, 0, 0, 0), (15, .astore_n 2, 0, 0, 0), (16, .iconst 1, 0, 0, 0), (17, .newarray .long, 2, 0, 0), (19, .astore_n 3, 0, 0, 0), (20, .iconst 0, 0, 0, 0), (21, .istore 4, 0, 0, 0), (23, .iload 4, 0, 0, 0), (25, .aload_n 0, 0, 0, 0), (26, .arraylength, 0, 0, 0), (27, .iconst 3, 0, 0, 0), (28, .isub, 0, 0, 0), (29, .if_icmp .gt 430, 0, 0, 0), (32, .aload_n 0, 0, 0, 0), (33, .iload 4, 0, 0, 0), (35, .iaload, 0, 0, 0), (36, .bipush 7, 0, 0, 0), (38, .iand, 0, 0, 0), (39, .tableswitch 414 0 7 #[45, 133, 177, 221, 265, 309, 353, 389], 45, 0, 0), (84, .aload_n 1, 0, 0, 0), (85, .aload_n 0, 0, 0, 0), (86, .iload 4, 0, 0, 0), (88, .iconst 1, 0, 0, 0), (89, .iadd, 0, 0, 0), (90, .iaload, 0, 0, 0), (91, .i2l, 0, 0, 0), (92, .bipush 32, 0, 0, 0), (94, .lshl, 0, 0, 0), (95, .aload_n 0, 0, 0, 0), (96, .iload 4, 0, 0, 0), (98, .iconst 2, 0, 0, 0), (99, .iadd, 0, 0, 0), (100, .iaload, 0, 0, 0), (101, .i2l, 0, 0, 0), (102, .ldc2_w 47, 0, 0, 4294967295), (105, .land, 0, 0, 0), (106, .lor, 0, 0, 0), (107, .aload_n 3, 0, 0, 0), (108, .invokestatic 49, 0, 0, 0), (111, .istore 5, 0, 0, 0), (113, .aload_n 2, 0, 0, 0), (114, .aload_n 0, 0, 0, 0), (115, .iload 4, 0, 0, 0), (117, .iconst 1, 0, 0, 0), (118, .iadd, 0, 0, 0), (119, .iaload, 0, 0, 0), (120, .i2l, 0, 0, 0), (121, .bipush 32, 0, 0, 0), (123, .lshl, 0, 0, 0), (124, .aload_n 0, 0, 0, 0), (125, .iload 4, 0, 0, 0), (127, .iconst 2, 0, 0, 0), (128, .iadd, 0, 0, 0), (129, .iaload, 0, 0, 0), (130, .i2l, 0, 0, 0), (131, .ldc2_w 47, 0, 0, 4294967295), (134, .land, 0, 0, 0), (135, .lor, 0, 0, 0), (136, .invokevirtual 54, 0, 0, 0), (139, .istore 6, 0, 0, 0), (141, .aload_n 2, 0, 0, 0), (142, .invokevirtual 55, 0, 0, 0), (145, .iload 5, 0, 0, 0), (147, .if_icmp .eq 5, 0, 0, 0), (150, .iconst 0, 0, 0, 0), (151, .ireturn, 0, 0, 0), (152, .iload 5, 0, 0, 0), (154, .ifCond .ne 15, 0, 0, 0), (157, .aload_n 3, 0, 0, 0), (158, .iconst 0, 0, 0, 0), (159, .laload, 0, 0, 0), (160, .iload 6, 0, 0, 0), (162, .i2l, 0, 0, 0), (163, .lcmp, 0, 0, 0), (164, .ifCond .eq 5, 0, 0, 0), (167, .iconst 0, 0, 0, 0), (168, .ireturn, 0, 0, 0), (169, .goto 284, 0, 0, 0), (172, .aload_n 1, 0, 0, 0), (173, .aload_n 3, 0, 0, 0), (174, .invokestatic 58, 0, 0, 0), (177, .istore 5, 0, 0, 0), (179, .aload_n 2, 0, 0, 0), (180, .invokevirtual 61, 0, 0, 0), (183, .istore 6, 0, 0, 0), (185, .aload_n 2, 0, 0, 0), (186, .invokevirtual 55, 0, 0, 0), (189, .iload 5, 0, 0, 0), (191, .if_icmp .eq 5, 0, 0, 0), (194, .iconst 0, 0, 0, 0), (195, .ireturn, 0, 0, 0), (196, .iload 5, 0, 0, 0), (198, .ifCond .ne 15, 0, 0, 0), (201, .aload_n 3, 0, 0, 0), (202, .iconst 0, 0, 0, 0), (203, .laload, 0, 0, 0), (204, .iload 6, 0, 0, 0), (206, .i2l, 0, 0, 0), (207, .lcmp, 0, 0, 0), (208, .ifCond .eq 5, 0, 0, 0), (211, .iconst 0, 0, 0, 0), (212, .ireturn, 0, 0, 0), (213, .goto 240, 0, 0, 0), (216, .aload_n 1, 0, 0, 0), (217, .aload_n 3, 0, 0, 0), (218, .invokestatic 62, 0, 0, 0), (221, .istore 5, 0, 0, 0), (223, .aload_n 2, 0, 0, 0), (224, .invokevirtual 64, 0, 0, 0), (227, .istore 6, 0, 0, 0), (229, .aload_n 2, 0, 0, 0), (230, .invokevirtual 55, 0, 0, 0), (233, .iload 5, 0, 0, 0), (235, .if_icmp .eq 5, 0, 0, 0), (238, .iconst 0, 0, 0, 0), (239, .ireturn, 0, 0, 0), (240, .iload 5, 0, 0, 0), (242, .ifCond .ne 15, 0, 0, 0), (245, .aload_n 3, 0, 0, 0), (246, .iconst 0, 0, 0, 0), (247, .laload, 0, 0, 0), (248, .iload 6, 0, 0, 0), (250, .i2l, 0, 0, 0), (251, .lcmp, 0, 0, 0), (252, .ifCond .eq 5, 0, 0, 0), (255, .iconst 0, 0, 0, 0), (256, .ireturn, 0, 0, 0), (257, .goto 196, 0, 0, 0), (260, .aload_n 1, 0, 0, 0), (261, .aload_n 3, 0, 0, 0), (262, .invokestatic 65, 0, 0, 0), (265, .istore 5, 0, 0, 0), (267, .aload_n 2, 0, 0, 0), (268, .invokevirtual 67, 0, 0, 0), (271, .istore 6, 0, 0, 0), (273, .aload_n 2, 0, 0, 0), (274, .invokevirtual 55, 0, 0, 0), (277, .iload 5, 0, 0, 0), (279, .if_icmp .eq 5, 0, 0, 0), (282, .iconst 0, 0, 0, 0), (283, .ireturn, 0, 0, 0), (284, .iload 5, 0, 0, 0), (286, .ifCond .ne 15, 0, 0, 0), (289, .aload_n 3, 0, 0, 0), (290, .iconst 0, 0, 0, 0), (291, .laload, 0, 0, 0), (292, .iload 6, 0, 0, 0), (294, .i2l, 0, 0, 0), (295, .lcmp, 0, 0, 0), (296, .ifCond .eq 5, 0, 0, 0), (299, .iconst 0, 0, 0, 0), (300, .ireturn, 0, 0, 0), (301, .goto 152, 0, 0, 0), (304, .aload_n 1, 0, 0, 0), (305, .aload_n 3, 0, 0, 0), (306, .invokestatic 68, 0, 0, 0), (309, .istore 5, 0, 0, 0), (311, .aload_n 2, 0, 0, 0), (312, .invokevirtual 70, 0, 0, 0), (315, .istore 6, 0, 0, 0), (317, .aload_n 2, 0, 0, 0), (318, .invokevirtual 55, 0, 0, 0), (321, .iload 5, 0, 0, 0), (323, .if_icmp .eq 5, 0, 0, 0), (326, .iconst 0, 0, 0, 0), (327, .ireturn, 0, 0, 0), (328, .iload 5, 0, 0, 0), (330, .ifCond .ne 15, 0, 0, 0), (333, .aload_n 3, 0, 0, 0), (334, .iconst 0, 0, 0, 0), (335, .laload, 0, 0, 0), (336, .iload 6, 0, 0, 0), (338, .i2l, 0, 0, 0), (339, .lcmp, 0, 0, 0), (340, .ifCond .eq 5, 0, 0, 0), (343, .iconst 0, 0, 0, 0), (344, .ireturn, 0, 0, 0), (345, .goto 108, 0, 0, 0), (348, .aload_n 1, 0, 0, 0), (349, .aload_n 3, 0, 0, 0), (350, .invokestatic 71, 0, 0, 0), (353, .istore 5, 0, 0, 0), (355, .aload_n 2, 0, 0, 0), (356, .invokevirtual 73, 0, 0, 0), (359, .istore 6, 0, 0, 0), (361, .aload_n 2, 0, 0, 0), (362, .invokevirtual 55, 0, 0, 0), (365, .iload 5, 0, 0, 0), (367, .if_icmp .eq 5, 0, 0, 0), (370, .iconst 0, 0, 0, 0), (371, .ireturn, 0, 0, 0), (372, .iload 5, 0, 0, 0), (374, .ifCond .ne 15, 0, 0, 0), (377, .aload_n 3, 0, 0, 0), (378, .iconst 0, 0, 0, 0), (379, .laload, 0, 0, 0), (380, .iload 6, 0, 0, 0), (382, .i2l, 0, 0, 0), (383, .lcmp, 0, 0, 0), (384, .ifCond .eq 5, 0, 0, 0), (387, .iconst 0, 0, 0, 0), (388, .ireturn, 0, 0, 0), (389, .goto 64, 0, 0, 0), (392, .aload_n 1, 0, 0, 0), (393, .aload_n 0, 0, 0, 0), (394, .iload 4, 0, 0, 0), (396, .iconst 1, 0, 0, 0), (397, .iadd, 0, 0, 0), (398, .iaload, 0, 0, 0), (399, .invokestatic 74, 0, 0, 0), (402, .istore 5, 0, 0, 0), (404, .aload_n 2, 0, 0, 0), (405, .aload_n 0, 0, 0, 0), (406, .iload 4, 0, 0, 0), (408, .iconst 1, 0, 0, 0), (409, .iadd, 0, 0, 0), (410, .iaload, 0, 0, 0), (411, .invokevirtual 77, 0, 0, 0), (414, .aload_n 2, 0, 0, 0), (415, .invokevirtual 55, 0, 0, 0), (418, .iload 5, 0, 0, 0), (420, .if_icmp .eq 5, 0, 0, 0), (423, .iconst 0, 0, 0, 0), (424, .ireturn, 0, 0, 0), (425, .goto 28, 0, 0, 0), (428, .aload_n 1, 0, 0, 0), (429, .aload_n 0, 0, 0, 0), (430, .iload 4, 0, 0, 0), (432, .iconst 1, 0, 0, 0), (433, .iadd, 0, 0, 0), (434, .iaload, 0, 0, 0), (435, .invokevirtual 78, 0, 0, 0), (438, .aload_n 2, 0, 0, 0), (439, .aload_n 0, 0, 0, 0), (440, .iload 4, 0, 0, 0), (442, .iconst 1, 0, 0, 0), (443, .iadd, 0, 0, 0), (444, .iaload, 0, 0, 0), (445, .invokevirtual 82, 0, 0, 0), (448, .if_icmp .eq 5, 0, 0, 0), (451, .iconst 0, 0, 0, 0), (452, .ireturn, 0, 0, 0), (453, .iinc 4 3, 0, 0, 0), (456, .goto (-433), 0, 0, 0), (459, .iconst 1, 0, 0, 0), (460, .ireturn, 0, 0, 0)]
/-- NeedMachine.<init>()V -/
def zm_c1 : List (Nat × zm_I) := [(0, .aload_n 0, 0, 0, 0), (1, .invokespecial 1, 0, 0, 0), (4, .aload_n 0, 0, 0, 0), (5, .new 7, 1, 0, 0), (8, .dup, 0, 0, 0), (9, .invokespecial 9, 0, 0, 0), (12, .putfield 10, 0, 0, 0), (15, .aload_n 0, 0, 0, 0), (16, .new 16, 2, 0, 0), (19, .dup, 0, 0, 0), (20, .invokespecial 18, 0, 0, 0), (23, .putfield 19, 0, 1, 0), (26, .aload_n 0, 0, 0, 0), (27, .bipush 6, 0, 0, 0), (29, .anewarray 23, 4, 0, 0), (32, .putfield 25, 0, 2, 0), (35, .return_, 0, 0, 0)]
/-- java/lang/Object.<init>()V -/
def zm_c2 : List (Nat × zm_I) := [(0, .return_, 0, 0, 0)]
/-- NeedMachine$Text.<init>()V -/
def zm_c3 : List (Nat × zm_I) := [(0, .aload_n 0, 0, 0, 0), (1, .invokespecial 3, 0, 0, 0), (4, .aload_n 0, 0, 0, 0), (5, .iconst (-1), 0, 0, 0), (6, .putfield 9, 1, 1, 0), (9, .aload_n 0, 0, 0, 0), (10, .bipush 40, 0, 0, 0), (12, .newarray .char, 1, 0, 0), (14, .putfield 15, 1, 2, 0), (17, .aload_n 0, 0, 0, 0), (18, .iconst 4, 0, 0, 0), (19, .newarray .char, 1, 0, 0), (21, .putfield 19, 1, 3, 0), (24, .return_, 0, 0, 0)]
/-- NeedMachine$Store.<init>()V -/
def zm_c4 : List (Nat × zm_I) := [(0, .aload_n 0, 0, 0, 0), (1, .invokespecial 3, 0, 0, 0), (4, .aload_n 0, 0, 0, 0), (5, .new 9, 3, 0, 0), (8, .dup, 0, 0, 0), (9, .invokespecial 11, 0, 0, 0), (12, .putfield 12, 2, 0, 0), (15, .aload_n 0, 0, 0, 0), (16, .getfield 12, 2, 0, 0), (19, .iconst 1, 0, 0, 0), (20, .putfield 18, 3, 0, 0), (23, .aload_n 0, 0, 0, 0), (24, .new 22, 4, 0, 0), (27, .dup, 0, 0, 0), (28, .invokespecial 24, 0, 0, 0), (31, .putfield 25, 2, 1, 0), (34, .aload_n 0, 0, 0, 0), (35, .new 22, 4, 0, 0), (38, .dup, 0, 0, 0), (39, .invokespecial 24, 0, 0, 0), (42, .putfield 29, 2, 2, 0), (45, .aload_n 0, 0, 0, 0), (46, .new 22, 4, 0, 0), (49, .dup, 0, 0, 0), (50, .invokespecial 24, 0, 0, 0), (53, .putfield 32, 2, 3, 0), (56, .return_, 0, 0, 0)]
/-- NeedMachine$Value.<init>()V -/
def zm_c5 : List (Nat × zm_I) := [(0, .aload_n 0, 0, 0, 0), (1, .invokespecial 1, 0, 0, 0), (4, .return_, 0, 0, 0)]
/-- java/util/ArrayList.<init>()V -/
def zm_c6 : List (Nat × zm_I) := [(0, .aload_n 0, 0, 0, 0), (1, .invokespecial 1, 0, 0, 0), (4, .aload_n 0, 0, 0, 0), (5, .getstatic 39, 1, 0, 0), (8, .putfield 9, 4, 0, 0), (11, .return_, 0, 0, 0)]
/-- java/util/AbstractList.<init>()V -/
def zm_c7 : List (Nat × zm_I) := [(0, .aload_n 0, 0, 0, 0), (1, .invokespecial 1, 0, 0, 0), (4, .aload_n 0, 0, 0, 0), (5, .iconst 0, 0, 0, 0), (6, .putfield 7, 4, 2, 0), (9, .return_, 0, 0, 0)]
/-- java/util/AbstractCollection.<init>()V -/
def zm_c8 : List (Nat × zm_I) := [(0, .aload_n 0, 0, 0, 0), (1, .invokespecial 1, 0, 0, 0), (4, .return_, 0, 0, 0)]
/-- NeedMachine.count(I)I -/
def zm_c9 : List (Nat × zm_I) := [(0, .iload_n 1, 0, 0, 0), (1, .tableswitch 93 0 7 #[47, 55, 63, 68, 73, 78, 83, 88], 47, 0, 0), (48, .aload_n 0, 0, 0, 0), (49, .getfield 10, 0, 0, 0), (52, .getfield 105, 1, 1, 0), (55, .ireturn, 0, 0, 0), (56, .aload_n 0, 0, 0, 0), (57, .getfield 10, 0, 0, 0), (60, .getfield 108, 1, 0, 0), (63, .ireturn, 0, 0, 0), (64, .aload_n 0, 0, 0, 0), (65, .invokevirtual 111, 0, 0, 0), (68, .ireturn, 0, 0, 0), (69, .aload_n 0, 0, 0, 0), (70, .getfield 55, 0, 4, 0), (73, .ireturn, 0, 0, 0), (74, .aload_n 0, 0, 0, 0), (75, .getfield 115, 0, 5, 0), (78, .ireturn, 0, 0, 0), (79, .aload_n 0, 0, 0, 0), (80, .getfield 118, 0, 6, 0), (83, .ireturn, 0, 0, 0), (84, .aload_n 0, 0, 0, 0), (85, .getfield 121, 0, 7, 0), (88, .ireturn, 0, 0, 0), (89, .aload_n 0, 0, 0, 0), (90, .getfield 58, 0, 8, 0), (93, .ireturn, 0, 0, 0), (94, .iconst (-1), 0, 0, 0), (95, .ireturn, 0, 0, 0)]
/-- NeedMachine.countDefinitions()I -/
def zm_c10 : List (Nat × zm_I) := [(0, .iconst 0, 0, 0, 0), (1, .istore_n 1, 0, 0, 0), (2, .aload_n 0, 0, 0, 0), (3, .getfield 25, 0, 2, 0), (6, .astore_n 2, 0, 0, 0), (7, .aload_n 2, 0, 0, 0), (8, .arraylength, 0, 0, 0), (9, .istore_n 3, 0, 0, 0), (10, .iconst 0, 0, 0, 0), (11, .istore 4, 0, 0, 0), (13, .iload 4, 0, 0, 0), (15, .iload_n 3, 0, 0, 0), (16, .if_icmp .ge 23, 0, 0, 0), (19, .aload_n 2, 0, 0, 0), (20, .iload 4, 0, 0, 0), (22, .aaload, 0, 0, 0), (23, .astore 5, 0, 0, 0), (25, .aload 5, 0, 0, 0), (27, .ifnull 6, 0, 0, 0), (30, .iinc 1 1, 0, 0, 0), (33, .iinc 4 1, 0, 0, 0), (36, .goto (-23), 0, 0, 0), (39, .iload_n 1, 0, 0, 0), (40, .ireturn, 0, 0, 0)]
/-- NeedMachineLaw.type(LNeedMachine;J[J)I -/
def zm_c11 : List (Nat × zm_I) := [(0, .aload_n 3, 0, 0, 0), (1, .iconst 0, 0, 0, 0), (2, .aload_n 0, 0, 0, 0), (3, .lload_n 1, 0, 0, 0), (4, .invokevirtual 7, 0, 0, 0), (7, .i2l, 0, 0, 0), (8, .lastore, 0, 0, 0), (9, .goto 11, 0, 0, 0), (12, .astore 4, 0, 0, 0), (14, .iconst 1, 0, 0, 0), (15, .ireturn, 0, 0, 0), (16, .astore 4, 0, 0, 0), (18, .iconst 2, 0, 0, 0), (19, .ireturn, 0, 0, 0), (20, .iconst 0, 0, 0, 0), (21, .ireturn, 0, 0, 0)]
/-- NeedMachine.type(J)I -/
def zm_c12 : List (Nat × zm_I) := [(0, .aload_n 0, 0, 0, 0), (1, .getfield 10, 0, 0, 0), (4, .lload_n 1, 0, 0, 0), (5, .invokevirtual 29, 0, 0, 0), (8, .ireturn, 0, 0, 0)]
/-- NeedMachine$Text.add(J)I -/
def zm_c13 : List (Nat × zm_I) := [(0, .iconst 0, 0, 0, 0), (1, .istore_n 3, 0, 0, 0), (2, .bipush 56, 0, 0, 0), (4, .istore 4, 0, 0, 0), (6, .iload 4, 0, 0, 0), (8, .ifCond .lt 59, 0, 0, 0), (11, .lload_n 1, 0, 0, 0), (12, .iload 4, 0, 0, 0), (14, .invokestatic 22, 0, 0, 0), (17, .istore 5, 0, 0, 0), (19, .iload 5, 0, 0, 0), (21, .ifCond .eq 27, 0, 0, 0), (24, .iload 5, 0, 0, 0), (26, .bipush 33, 0, 0, 0), (28, .if_icmp .lt 10, 0, 0, 0), (31, .iload 5, 0, 0, 0), (33, .bipush 126, 0, 0, 0), (35, .if_icmp .le 13, 0, 0, 0), (48, .iload_n 3, 0, 0, 0), (49, .iload 5, 0, 0, 0), (51, .ifCond .eq 7, 0, 0, 0), (54, .iconst 1, 0, 0, 0), (55, .goto 4, 0, 0, 0), (58, .iconst 0, 0, 0, 0), (59, .iadd, 0, 0, 0), (60, .istore_n 3, 0, 0, 0), (61, .iinc 4 (-8), 0, 0, 0), (64, .goto (-58), 0, 0, 0), (67, .aload_n 0, 0, 0, 0), (68, .getfield 33, 1, 0, 0), (71, .iload_n 3, 0, 0, 0), (72, .iadd, 0, 0, 0), (73, .bipush 40, 0, 0, 0), (75, .if_icmp .le 13, 0, 0, 0), (88, .bipush 56, 0, 0, 0), (90, .istore 4, 0, 0, 0), (92, .iload 4, 0, 0, 0), (94, .ifCond .lt 44, 0, 0, 0), (97, .lload_n 1, 0, 0, 0), (98, .iload 4, 0, 0, 0), (100, .invokestatic 22, 0, 0, 0), (103, .istore 5, 0, 0, 0), (105, .iload 5, 0, 0, 0), (107, .ifCond .eq 25, 0, 0, 0), (110, .aload_n 0, 0, 0, 0), (111, .getfield 15, 1, 2, 0), (114, .aload_n 0, 0, 0, 0), (115, .getfield 33, 1, 0, 0), (118, .iload 5, 0, 0, 0), (120, .i2c, 0, 0, 0), (121, .castore, 0, 0, 0), (122, .aload_n 0, 0, 0, 0), (123, .dup, 0, 0, 0), (124, .getfield 33, 1, 0, 0), (127, .iconst 1, 0, 0, 0), (128, .iadd, 0, 0, 0), (129, .putfield 33, 1, 0, 0), (132, .iinc 4 (-8), 0, 0, 0), (135, .goto (-43), 0, 0, 0), (138, .aload_n 0, 0, 0, 0), (139, .getfield 33, 1, 0, 0), (142, .ireturn, 0, 0, 0)]
/-- NeedMachine$Text.byteAt(JI)I -/
def zm_c14 : List (Nat × zm_I) := [(0, .lload_n 0, 0, 0, 0), (1, .iload_n 2, 0, 0, 0), (2, .lushr, 0, 0, 0), (3, .l2i, 0, 0, 0), (4, .sipush 255, 0, 0, 0), (7, .iand, 0, 0, 0), (8, .ireturn, 0, 0, 0)]
/-- NeedMachineLaw.define(LNeedMachine;[J)I -/
def zm_c15 : List (Nat × zm_I) := [(0, .aload_n 1, 0, 0, 0), (1, .iconst 0, 0, 0, 0), (2, .aload_n 0, 0, 0, 0), (3, .invokevirtual 17, 0, 0, 0), (6, .i2l, 0, 0, 0), (7, .lastore, 0, 0, 0), (8, .goto 6, 0, 0, 0), (11, .astore_n 2, 0, 0, 0), (12, .iconst 1, 0, 0, 0), (13, .ireturn, 0, 0, 0), (14, .iconst 0, 0, 0, 0), (15, .ireturn, 0, 0, 0)]
/-- NeedMachine.define()I -/
def zm_c16 : List (Nat × zm_I) := [(0, .aload_n 0, 0, 0, 0), (1, .getfield 10, 0, 0, 0), (4, .invokevirtual 33, 0, 0, 0), (7, .astore_n 1, 0, 0, 0), (8, .aload_n 0, 0, 0, 0), (9, .getfield 25, 0, 2, 0), (12, .aload_n 1, 0, 0, 0), (13, .getfield 37, 6, 0, 0), (16, .aload_n 1, 0, 0, 0), (17, .aastore, 0, 0, 0), (18, .aload_n 1, 0, 0, 0), (19, .getfield 41, 6, 1, 0), (22, .ireturn, 0, 0, 0)]
/-- NeedMachine$Text.readDefinition()LNeedMachine$Definition; -/
def zm_c17 : List (Nat × zm_I) := [(0, .aload_n 0, 0, 0, 0), (1, .invokevirtual 41, 0, 0, 0), (4, .aload_n 0, 0, 0, 0), (5, .aload_n 0, 0, 0, 0), (6, .getfield 44, 1, 6, 0), (9, .aload_n 0, 0, 0, 0), (10, .getfield 47, 1, 5, 0), (13, .if_icmp .ge 22, 0, 0, 0), (16, .aload_n 0, 0, 0, 0), (17, .getfield 15, 1, 2, 0), (20, .aload_n 0, 0, 0, 0), (21, .getfield 44, 1, 6, 0), (24, .caload, 0, 0, 0), (25, .invokestatic 50, 0, 0, 0), (28, .ifCond .eq 7, 0, 0, 0), (31, .iconst 1, 0, 0, 0), (32, .goto 4, 0, 0, 0), (35, .iconst 0, 0, 0, 0), (36, .invokevirtual 54, 0, 0, 0), (39, .aload_n 0, 0, 0, 0), (40, .getfield 15, 1, 2, 0), (43, .aload_n 0, 0, 0, 0), (44, .getfield 44, 1, 6, 0), (47, .caload, 0, 0, 0), (48, .bipush 65, 0, 0, 0), (50, .isub, 0, 0, 0), (51, .istore_n 1, 0, 0, 0), (52, .aload_n 0, 0, 0, 0), (53, .dup, 0, 0, 0), (54, .getfield 44, 1, 6, 0), (57, .iconst 1, 0, 0, 0), (58, .iadd, 0, 0, 0), (59, .putfield 44, 1, 6, 0), (62, .aload_n 0, 0, 0, 0), (63, .invokevirtual 58, 0, 0, 0), (66, .aload_n 0, 0, 0, 0), (67, .aload_n 0, 0, 0, 0), (68, .getfield 44, 1, 6, 0), (71, .aload_n 0, 0, 0, 0), (72, .getfield 47, 1, 5, 0), (75, .if_icmp .ge 21, 0, 0, 0), (78, .aload_n 0, 0, 0, 0), (79, .getfield 15, 1, 2, 0), (82, .aload_n 0, 0, 0, 0), (83, .getfield 44, 1, 6, 0), (86, .caload, 0, 0, 0), (87, .bipush 61, 0, 0, 0), (89, .if_icmp .ne 7, 0, 0, 0), (92, .iconst 1, 0, 0, 0), (93, .goto 4, 0, 0, 0), (96, .iconst 0, 0, 0, 0), (97, .invokevirtual 54, 0, 0, 0), (100, .aload_n 0, 0, 0, 0), (101, .dup, 0, 0, 0), (102, .getfield 44, 1, 6, 0), (105, .iconst 1, 0, 0, 0), (106, .iadd, 0, 0, 0), (107, .putfield 44, 1, 6, 0), (110, .new 61, 6, 0, 0), (113, .dup, 0, 0, 0), (114, .iload_n 1, 0, 0, 0), (115, .aload_n 0, 0, 0, 0), (116, .getfield 63, 1, 4, 0), (119, .aload_n 0, 0, 0, 0), (120, .invokevirtual 66, 0, 0, 0), (123, .invokespecial 70, 0, 0, 0), (126, .areturn, 0, 0, 0)]
/-- NeedMachine$Text.beginReading()V -/
def zm_c18 : List (Nat × zm_I) := [(0, .aload_n 0, 0, 0, 0), (1, .aload_n 0, 0, 0, 0), (2, .getfield 33, 1, 0, 0), (5, .putfield 47, 1, 5, 0), (8, .aload_n 0, 0, 0, 0), (9, .iconst 0, 0, 0, 0), (10, .putfield 33, 1, 0, 0), (13, .aload_n 0, 0, 0, 0), (14, .iconst 0, 0, 0, 0), (15, .putfield 44, 1, 6, 0), (18, .aload_n 0, 0, 0, 0), (19, .iconst 0, 0, 0, 0), (20, .putfield 63, 1, 4, 0), (23, .return_, 0, 0, 0)]
/-- NeedMachine$Text.isName(C)Z -/
def zm_c19 : List (Nat × zm_I) := [(0, .iload_n 0, 0, 0, 0), (1, .bipush 65, 0, 0, 0), (3, .if_icmp .lt 13, 0, 0, 0), (6, .iload_n 0, 0, 0, 0), (7, .bipush 71, 0, 0, 0), (9, .if_icmp .ge 7, 0, 0, 0), (12, .iconst 1, 0, 0, 0), (13, .goto 4, 0, 0, 0), (16, .iconst 0, 0, 0, 0), (17, .ireturn, 0, 0, 0)]
/-- NeedMachine$Text.refuseUnless(Z)V -/
def zm_c20 : List (Nat × zm_I) := [(0, .iload_n 1, 0, 0, 0), (1, .ifCond .ne 21, 0, 0, 0), (4, .aload_n 0, 0, 0, 0), (5, .aload_n 0, 0, 0, 0), (6, .getfield 44, 1, 6, 0), (9, .putfield 9, 1, 1, 0), (22, .return_, 0, 0, 0)]
/-- NeedMachine$Text.readParameters()V -/
def zm_c21 : List (Nat × zm_I) := [(0, .aload_n 0, 0, 0, 0), (1, .getfield 63, 1, 4, 0), (4, .iconst 4, 0, 0, 0), (5, .if_icmp .ge 71, 0, 0, 0), (8, .aload_n 0, 0, 0, 0), (9, .getfield 44, 1, 6, 0), (12, .aload_n 0, 0, 0, 0), (13, .getfield 47, 1, 5, 0), (16, .if_icmp .ge 60, 0, 0, 0), (19, .aload_n 0, 0, 0, 0), (20, .aload_n 0, 0, 0, 0), (21, .getfield 15, 1, 2, 0), (24, .aload_n 0, 0, 0, 0), (25, .getfield 44, 1, 6, 0), (28, .caload, 0, 0, 0), (29, .invokevirtual 73, 0, 0, 0), (32, .ifCond .eq 44, 0, 0, 0), (35, .aload_n 0, 0, 0, 0), (36, .getfield 19, 1, 3, 0), (39, .aload_n 0, 0, 0, 0), (40, .getfield 63, 1, 4, 0), (43, .aload_n 0, 0, 0, 0), (44, .getfield 15, 1, 2, 0), (47, .aload_n 0, 0, 0, 0), (48, .getfield 44, 1, 6, 0), (51, .caload, 0, 0, 0), (52, .castore, 0, 0, 0), (53, .aload_n 0, 0, 0, 0), (54, .dup, 0, 0, 0), (55, .getfield 63, 1, 4, 0), (58, .iconst 1, 0, 0, 0), (59, .iadd, 0, 0, 0), (60, .putfield 63, 1, 4, 0), (63, .aload_n 0, 0, 0, 0), (64, .dup, 0, 0, 0), (65, .getfield 44, 1, 6, 0), (68, .iconst 1, 0, 0, 0), (69, .iadd, 0, 0, 0), (70, .putfield 44, 1, 6, 0), (73, .goto (-73), 0, 0, 0), (76, .return_, 0, 0, 0)]
/-- NeedMachine$Text.isNewParameter(C)Z -/
def zm_c22 : List (Nat × zm_I) := [(0, .iload_n 1, 0, 0, 0), (1, .bipush 97, 0, 0, 0), (3, .if_icmp .lt 21, 0, 0, 0), (6, .iload_n 1, 0, 0, 0), (7, .bipush 102, 0, 0, 0), (9, .if_icmp .gt 15, 0, 0, 0), (12, .aload_n 0, 0, 0, 0), (13, .iload_n 1, 0, 0, 0), (14, .invokevirtual 103, 0, 0, 0), (17, .ifCond .ge 7, 0, 0, 0), (20, .iconst 1, 0, 0, 0), (21, .goto 4, 0, 0, 0), (24, .iconst 0, 0, 0, 0), (25, .ireturn, 0, 0, 0)]
/-- NeedMachine$Text.parameterIndex(C)I -/
def zm_c23 : List (Nat × zm_I) := [(0, .iconst 0, 0, 0, 0), (1, .istore_n 2, 0, 0, 0), (2, .iload_n 2, 0, 0, 0), (3, .aload_n 0, 0, 0, 0), (4, .getfield 63, 1, 4, 0), (7, .if_icmp .ge 21, 0, 0, 0), (10, .aload_n 0, 0, 0, 0), (11, .getfield 19, 1, 3, 0), (14, .iload_n 2, 0, 0, 0), (15, .caload, 0, 0, 0), (16, .iload_n 1, 0, 0, 0), (17, .if_icmp .ne 5, 0, 0, 0), (20, .iload_n 2, 0, 0, 0), (21, .ireturn, 0, 0, 0), (22, .iinc 2 1, 0, 0, 0), (25, .goto (-23), 0, 0, 0), (28, .iconst (-1), 0, 0, 0), (29, .ireturn, 0, 0, 0)]
/-- NeedMachine$Text.readToTheEnd()LNeedMachine$Expression; -/
def zm_c24 : List (Nat × zm_I) := [(0, .aload_n 0, 0, 0, 0), (1, .iconst 1, 0, 0, 0), (2, .putfield 76, 1, 7, 0), (5, .aload_n 0, 0, 0, 0), (6, .iconst 1, 0, 0, 0), (7, .invokevirtual 79, 0, 0, 0), (10, .astore_n 1, 0, 0, 0), (11, .aload_n 0, 0, 0, 0), (12, .aload_n 0, 0, 0, 0), (13, .getfield 44, 1, 6, 0), (16, .aload_n 0, 0, 0, 0), (17, .getfield 47, 1, 5, 0), (20, .if_icmp .ne 7, 0, 0, 0), (23, .iconst 1, 0, 0, 0), (24, .goto 4, 0, 0, 0), (27, .iconst 0, 0, 0, 0), (28, .invokevirtual 54, 0, 0, 0), (31, .aload_n 1, 0, 0, 0), (32, .areturn, 0, 0, 0)]
/-- NeedMachine$Text.readExpression(I)LNeedMachine$Expression; -/
def zm_c25 : List (Nat × zm_I) := [(0, .aload_n 0, 0, 0, 0), (1, .aload_n 0, 0, 0, 0), (2, .getfield 44, 1, 6, 0), (5, .aload_n 0, 0, 0, 0), (6, .getfield 47, 1, 5, 0), (9, .if_icmp .ge 24, 0, 0, 0), (12, .aload_n 0, 0, 0, 0), (13, .aload_n 0, 0, 0, 0), (14, .getfield 15, 1, 2, 0), (17, .aload_n 0, 0, 0, 0), (18, .getfield 44, 1, 6, 0), (21, .caload, 0, 0, 0), (22, .iload_n 1, 0, 0, 0), (23, .invokevirtual 83, 0, 0, 0), (26, .ifCond .eq 7, 0, 0, 0), (29, .iconst 1, 0, 0, 0), (30, .goto 4, 0, 0, 0), (33, .iconst 0, 0, 0, 0), (34, .invokevirtual 54, 0, 0, 0), (37, .aload_n 0, 0, 0, 0), (38, .getfield 15, 1, 2, 0), (41, .aload_n 0, 0, 0, 0), (42, .getfield 44, 1, 6, 0), (45, .caload, 0, 0, 0), (46, .istore_n 2, 0, 0, 0), (47, .iload_n 2, 0, 0, 0), (48, .invokestatic 87, 0, 0, 0), (51, .istore_n 3, 0, 0, 0), (52, .aload_n 0, 0, 0, 0), (53, .dup, 0, 0, 0), (54, .getfield 44, 1, 6, 0), (57, .iconst 1, 0, 0, 0), (58, .iadd, 0, 0, 0), (59, .putfield 44, 1, 6, 0), (62, .aload_n 0, 0, 0, 0), (63, .dup, 0, 0, 0), (64, .getfield 76, 1, 7, 0), (67, .iload_n 3, 0, 0, 0), (68, .iconst 1, 0, 0, 0), (69, .isub, 0, 0, 0), (70, .iadd, 0, 0, 0), (71, .putfield 76, 1, 7, 0), (74, .iload_n 3, 0, 0, 0), (75, .ifCond .ne 9, 0, 0, 0), (78, .aload_n 0, 0, 0, 0), (79, .iload_n 2, 0, 0, 0), (80, .invokevirtual 91, 0, 0, 0), (83, .areturn, 0, 0, 0), (84, .aload_n 0, 0, 0, 0), (85, .iload_n 1, 0, 0, 0), (86, .iconst 1, 0, 0, 0), (87, .iadd, 0, 0, 0), (88, .invokevirtual 79, 0, 0, 0), (91, .astore 4, 0, 0, 0), (93, .iload_n 3, 0, 0, 0), (94, .iconst 1, 0, 0, 0), (95, .if_icmp .le 13, 0, 0, 0), (98, .aload_n 0, 0, 0, 0), (99, .iload_n 1, 0, 0, 0), (100, .iconst 1, 0, 0, 0), (101, .iadd, 0, 0, 0), (102, .invokevirtual 79, 0, 0, 0), (105, .goto 4, 0, 0, 0), (108, .aconst_null, 0, 0, 0), (109, .astore 5, 0, 0, 0), (111, .iload_n 3, 0, 0, 0), (112, .iconst 2, 0, 0, 0), (113, .if_icmp .le 13, 0, 0, 0), (116, .aload_n 0, 0, 0, 0), (117, .iload_n 1, 0, 0, 0), (118, .iconst 1, 0, 0, 0), (119, .iadd, 0, 0, 0), (120, .invokevirtual 79, 0, 0, 0), (123, .goto 4, 0, 0, 0), (126, .aconst_null, 0, 0, 0), (127, .astore 6, 0, 0, 0), (129, .new 95, 7, 0, 0), (132, .dup, 0, 0, 0), (133, .iload_n 2, 0, 0, 0), (134, .iconst 0, 0, 0, 0), (135, .aload 4, 0, 0, 0), (137, .aload 5, 0, 0, 0), (139, .aload 6, 0, 0, 0), (141, .invokespecial 97, 0, 0, 0), (144, .areturn, 0, 0, 0)]
/-- NeedMachine$Text.canStand(CI)Z -/
def zm_c26 : List (Nat × zm_I) := [(0, .iload_n 1, 0, 0, 0), (1, .invokestatic 87, 0, 0, 0), (4, .istore_n 3, 0, 0, 0), (5, .iload_n 3, 0, 0, 0), (6, .ifCond .ne 9, 0, 0, 0), (9, .aload_n 0, 0, 0, 0), (10, .iload_n 1, 0, 0, 0), (11, .invokevirtual 106, 0, 0, 0), (14, .ireturn, 0, 0, 0), (15, .iload_n 2, 0, 0, 0), (16, .bipush 12, 0, 0, 0), (18, .if_icmp .ge 23, 0, 0, 0), (21, .aload_n 0, 0, 0, 0), (22, .getfield 44, 1, 6, 0), (25, .aload_n 0, 0, 0, 0), (26, .getfield 76, 1, 7, 0), (29, .iadd, 0, 0, 0), (30, .iload_n 3, 0, 0, 0), (31, .iadd, 0, 0, 0), (32, .bipush 40, 0, 0, 0), (34, .if_icmp .gt 7, 0, 0, 0), (37, .iconst 1, 0, 0, 0), (38, .goto 4, 0, 0, 0), (41, .iconst 0, 0, 0, 0), (42, .ireturn, 0, 0, 0)]
/-- NeedMachine$Text.partsOf(C)I -/
def zm_c27 : List (Nat × zm_I) := [(0, .iload_n 0, 0, 0, 0), (1, .lookupswitch 121 #[(37, 117), (42, 117), (43, 117), (45, 117), (46, 117), (47, 117), (58, 117), (60, 117), (61, 117), (63, 119), (104, 115), (116, 115), (122, 115)], 115, 0, 0), (116, .iconst 1, 0, 0, 0), (117, .ireturn, 0, 0, 0), (118, .iconst 2, 0, 0, 0), (119, .ireturn, 0, 0, 0), (120, .iconst 3, 0, 0, 0), (121, .ireturn, 0, 0, 0), (122, .iconst 0, 0, 0, 0), (123, .ireturn, 0, 0, 0)]
/-- NeedMachine$Text.isLeaf(C)Z -/
def zm_c28 : List (Nat × zm_I) := [(0, .iload_n 1, 0, 0, 0), (1, .invokestatic 100, 0, 0, 0), (4, .ifCond .ne 24, 0, 0, 0), (7, .iload_n 1, 0, 0, 0), (8, .invokestatic 50, 0, 0, 0), (11, .ifCond .ne 17, 0, 0, 0), (14, .iload_n 1, 0, 0, 0), (15, .bipush 110, 0, 0, 0), (17, .if_icmp .eq 11, 0, 0, 0), (20, .aload_n 0, 0, 0, 0), (21, .iload_n 1, 0, 0, 0), (22, .invokevirtual 103, 0, 0, 0), (25, .ifCond .lt 7, 0, 0, 0), (28, .iconst 1, 0, 0, 0), (29, .goto 4, 0, 0, 0), (32, .iconst 0, 0, 0, 0), (33, .ireturn, 0, 0, 0)]
/-- NeedMachine$Text.isDigit(C)Z -/
def zm_c29 : List (Nat × zm_I) := [(0, .iload_n 0, 0, 0, 0), (1, .bipush 48, 0, 0, 0), (3, .if_icmp .lt 13, 0, 0, 0), (6, .iload_n 0, 0, 0, 0), (7, .bipush 57, 0, 0, 0), (9, .if_icmp .gt 7, 0, 0, 0), (12, .iconst 1, 0, 0, 0), (13, .goto 4, 0, 0, 0), (16, .iconst 0, 0, 0, 0), (17, .ireturn, 0, 0, 0)]
/-- NeedMachine$Text.readLeaf(C)LNeedMachine$Expression; -/
def zm_c30 : List (Nat × zm_I) := [(0, .iload_n 1, 0, 0, 0), (1, .invokestatic 100, 0, 0, 0), (4, .ifCond .eq 20, 0, 0, 0), (7, .new 95, 7, 0, 0), (10, .dup, 0, 0, 0), (11, .bipush 48, 0, 0, 0), (13, .iload_n 1, 0, 0, 0), (14, .bipush 48, 0, 0, 0), (16, .isub, 0, 0, 0), (17, .aconst_null, 0, 0, 0), (18, .aconst_null, 0, 0, 0), (19, .aconst_null, 0, 0, 0), (20, .invokespecial 97, 0, 0, 0), (23, .areturn, 0, 0, 0), (24, .iload_n 1, 0, 0, 0), (25, .invokestatic 50, 0, 0, 0), (28, .ifCond .eq 20, 0, 0, 0), (31, .new 95, 7, 0, 0), (34, .dup, 0, 0, 0), (35, .bipush 65, 0, 0, 0), (37, .iload_n 1, 0, 0, 0), (38, .bipush 65, 0, 0, 0), (40, .isub, 0, 0, 0), (41, .aconst_null, 0, 0, 0), (42, .aconst_null, 0, 0, 0), (43, .aconst_null, 0, 0, 0), (44, .invokespecial 97, 0, 0, 0), (47, .areturn, 0, 0, 0), (48, .aload_n 0, 0, 0, 0), (49, .iload_n 1, 0, 0, 0), (50, .invokevirtual 103, 0, 0, 0), (53, .istore_n 2, 0, 0, 0), (54, .iload_n 2, 0, 0, 0), (55, .ifCond .lt 17, 0, 0, 0), (58, .new 95, 7, 0, 0), (61, .dup, 0, 0, 0), (62, .bipush 97, 0, 0, 0), (64, .iload_n 2, 0, 0, 0), (65, .aconst_null, 0, 0, 0), (66, .aconst_null, 0, 0, 0), (67, .aconst_null, 0, 0, 0), (68, .invokespecial 97, 0, 0, 0), (71, .areturn, 0, 0, 0), (72, .new 95, 7, 0, 0), (75, .dup, 0, 0, 0), (76, .bipush 110, 0, 0, 0), (78, .iconst 0, 0, 0, 0), (79, .aconst_null, 0, 0, 0), (80, .aconst_null, 0, 0, 0), (81, .aconst_null, 0, 0, 0), (82, .invokespecial 97, 0, 0, 0), (85, .areturn, 0, 0, 0)]
/-- NeedMachine$Expression.<init>(CILNeedMachine$Expression;LNeedMachine$Expression;LNeedMachine$Expression;)V -/
def zm_c31 : List (Nat × zm_I) := [(0, .aload_n 0, 0, 0, 0), (1, .invokespecial 1, 0, 0, 0), (4, .aload_n 0, 0, 0, 0), (5, .iload_n 1, 0, 0, 0), (6, .putfield 7, 7, 0, 0), (9, .aload_n 0, 0, 0, 0), (10, .iload_n 2, 0, 0, 0), (11, .putfield 13, 7, 1, 0), (14, .aload_n 0, 0, 0, 0), (15, .aload_n 3, 0, 0, 0), (16, .putfield 17, 7, 2, 0), (19, .aload_n 0, 0, 0, 0), (20, .aload 4, 0, 0, 0), (22, .putfield 21, 7, 3, 0), (25, .aload_n 0, 0, 0, 0), (26, .aload 5, 0, 0, 0), (28, .putfield 24, 7, 4, 0), (31, .return_, 0, 0, 0)]
/-- NeedMachine$Definition.<init>(IILNeedMachine$Expression;)V -/
def zm_c32 : List (Nat × zm_I) := [(0, .aload_n 0, 0, 0, 0), (1, .invokespecial 1, 0, 0, 0), (4, .aload_n 0, 0, 0, 0), (5, .iload_n 1, 0, 0, 0), (6, .putfield 7, 6, 0, 0), (9, .aload_n 0, 0, 0, 0), (10, .iload_n 2, 0, 0, 0), (11, .putfield 13, 6, 1, 0), (14, .aload_n 0, 0, 0, 0), (15, .aload_n 3, 0, 0, 0), (16, .putfield 16, 6, 2, 0), (19, .return_, 0, 0, 0)]
/-- NeedMachineLaw.ask(LNeedMachine;[J)I -/
def zm_c33 : List (Nat × zm_I) := [(0, .aload_n 1, 0, 0, 0), (1, .iconst 0, 0, 0, 0), (2, .aload_n 0, 0, 0, 0), (3, .invokevirtual 21, 0, 0, 0), (6, .i2l, 0, 0, 0), (7, .lastore, 0, 0, 0), (8, .goto 18, 0, 0, 0), (11, .astore_n 2, 0, 0, 0), (12, .iconst 1, 0, 0, 0), (13, .ireturn, 0, 0, 0), (14, .astore_n 2, 0, 0, 0), (15, .iconst 2, 0, 0, 0), (16, .ireturn, 0, 0, 0), (17, .astore_n 2, 0, 0, 0), (18, .iconst 3, 0, 0, 0), (19, .ireturn, 0, 0, 0), (20, .astore_n 2, 0, 0, 0), (21, .iconst 4, 0, 0, 0), (22, .ireturn, 0, 0, 0), (23, .astore_n 2, 0, 0, 0), (24, .iconst 5, 0, 0, 0), (25, .ireturn, 0, 0, 0), (26, .iconst 0, 0, 0, 0), (27, .ireturn, 0, 0, 0)]
/-- NeedMachine.ask()I -/
def zm_c34 : List (Nat × zm_I) := [(0, .aload_n 0, 0, 0, 0), (1, .getfield 10, 0, 0, 0), (4, .invokevirtual 44, 0, 0, 0), (7, .astore_n 1, 0, 0, 0), (8, .aload_n 0, 0, 0, 0), (9, .aconst_null, 0, 0, 0), (10, .putfield 48, 0, 3, 0), (13, .aload_n 0, 0, 0, 0), (14, .getfield 19, 0, 1, 0), (17, .invokevirtual 52, 0, 0, 0), (20, .aload_n 0, 0, 0, 0), (21, .iconst 0, 0, 0, 0), (22, .putfield 55, 0, 4, 0), (25, .aload_n 0, 0, 0, 0), (26, .iconst 0, 0, 0, 0), (27, .putfield 58, 0, 8, 0), (30, .aload_n 0, 0, 0, 0), (31, .aload_n 0, 0, 0, 0), (32, .aload_n 1, 0, 0, 0), (33, .aconst_null, 0, 0, 0), (34, .iconst 1, 0, 0, 0), (35, .invokevirtual 61, 0, 0, 0), (38, .putfield 48, 0, 3, 0), (41, .aload_n 0, 0, 0, 0), (42, .getfield 48, 0, 3, 0), (45, .getfield 65, 3, 0, 0), (48, .ireturn, 0, 0, 0)]
/-- NeedMachine$Text.readAsked()LNeedMachine$Expression; -/
def zm_c35 : List (Nat × zm_I) := [(0, .aload_n 0, 0, 0, 0), (1, .invokevirtual 41, 0, 0, 0), (4, .aload_n 0, 0, 0, 0), (5, .invokevirtual 66, 0, 0, 0), (8, .areturn, 0, 0, 0)]
/-- NeedMachine$Store.takeAllBack()V -/
def zm_c36 : List (Nat × zm_I) := [(0, .aload_n 0, 0, 0, 0), (1, .iconst 0, 0, 0, 0), (2, .putfield 35, 2, 4, 0), (5, .aload_n 0, 0, 0, 0), (6, .iconst 0, 0, 0, 0), (7, .putfield 38, 2, 5, 0), (10, .aload_n 0, 0, 0, 0), (11, .iconst 0, 0, 0, 0), (12, .putfield 41, 2, 6, 0), (15, .return_, 0, 0, 0)]
/-- NeedMachine.work(LNeedMachine$Expression;LNeedMachine$Arguments;I)LNeedMachine$Value; -/
def zm_c37 : List (Nat × zm_I) := [(0, .iload_n 3, 0, 0, 0), (1, .bipush 60, 0, 0, 0), (3, .if_icmp .le 13, 0, 0, 0), (16, .aload_n 0, 0, 0, 0), (17, .aload_n 0, 0, 0, 0), (18, .getfield 58, 0, 8, 0), (21, .iload_n 3, 0, 0, 0), (22, .invokestatic 133, 0, 0, 0), (25, .putfield 58, 0, 8, 0), (28, .aload_n 1, 0, 0, 0), (29, .getfield 139, 7, 0, 0), (32, .lookupswitch 249 #[(46, 162), (48, 92), (58, 136), (63, 241), (65, 126), (97, 112), (104, 170), (110, 104), (116, 194), (122, 218)], 92, 0, 0), (124, .aload_n 0, 0, 0, 0), (125, .getfield 19, 0, 1, 0), (128, .aload_n 1, 0, 0, 0), (129, .getfield 145, 7, 1, 0), (132, .invokevirtual 148, 0, 0, 0), (135, .areturn, 0, 0, 0), (136, .aload_n 0, 0, 0, 0), (137, .getfield 19, 0, 1, 0), (140, .getfield 152, 2, 0, 0), (143, .areturn, 0, 0, 0), (144, .aload_n 0, 0, 0, 0), (145, .aload_n 2, 0, 0, 0), (146, .aload_n 1, 0, 0, 0), (147, .getfield 145, 7, 1, 0), (150, .invokestatic 155, 0, 0, 0), (153, .iload_n 3, 0, 0, 0), (154, .invokevirtual 89, 0, 0, 0), (157, .areturn, 0, 0, 0), (158, .aload_n 0, 0, 0, 0), (159, .aload_n 1, 0, 0, 0), (160, .getfield 145, 7, 1, 0), (163, .iload_n 3, 0, 0, 0), (164, .invokevirtual 159, 0, 0, 0), (167, .areturn, 0, 0, 0), (168, .aload_n 0, 0, 0, 0), (169, .getfield 19, 0, 1, 0), (172, .aload_n 0, 0, 0, 0), (173, .aload_n 1, 0, 0, 0), (174, .getfield 163, 7, 2, 0), (177, .aload_n 2, 0, 0, 0), (178, .invokevirtual 167, 0, 0, 0), (181, .aload_n 0, 0, 0, 0), (182, .aload_n 1, 0, 0, 0), (183, .getfield 171, 7, 3, 0), (186, .aload_n 2, 0, 0, 0), (187, .invokevirtual 167, 0, 0, 0), (190, .invokevirtual 174, 0, 0, 0), (193, .areturn, 0, 0, 0), (194, .aload_n 0, 0, 0, 0), (195, .aload_n 1, 0, 0, 0), (196, .aload_n 2, 0, 0, 0), (197, .iload_n 3, 0, 0, 0), (198, .invokevirtual 178, 0, 0, 0), (201, .areturn, 0, 0, 0), (202, .aload_n 0, 0, 0, 0), (203, .aload_n 0, 0, 0, 0), (204, .aload_n 1, 0, 0, 0), (205, .getfield 163, 7, 2, 0), (208, .aload_n 2, 0, 0, 0), (209, .iload_n 3, 0, 0, 0), (210, .iconst 1, 0, 0, 0), (211, .iadd, 0, 0, 0), (212, .invokevirtual 61, 0, 0, 0), (215, .invokestatic 124, 0, 0, 0), (218, .getfield 85, 3, 2, 0), (221, .iload_n 3, 0, 0, 0), (222, .invokevirtual 89, 0, 0, 0), (225, .areturn, 0, 0, 0), (226, .aload_n 0, 0, 0, 0), (227, .aload_n 0, 0, 0, 0), (228, .aload_n 1, 0, 0, 0), (229, .getfield 163, 7, 2, 0), (232, .aload_n 2, 0, 0, 0), (233, .iload_n 3, 0, 0, 0), (234, .iconst 1, 0, 0, 0), (235, .iadd, 0, 0, 0), (236, .invokevirtual 61, 0, 0, 0), (239, .invokestatic 124, 0, 0, 0), (242, .getfield 93, 3, 3, 0), (245, .iload_n 3, 0, 0, 0), (246, .invokevirtual 89, 0, 0, 0), (249, .areturn, 0, 0, 0), (250, .aload_n 0, 0, 0, 0), (251, .getfield 19, 0, 1, 0), (254, .aload_n 0, 0, 0, 0), (255, .aload_n 1, 0, 0, 0), (256, .getfield 163, 7, 2, 0), (259, .aload_n 2, 0, 0, 0), (260, .iload_n 3, 0, 0, 0), (261, .iconst 1, 0, 0, 0), (262, .iadd, 0, 0, 0), (263, .invokevirtual 61, 0, 0, 0), (266, .invokestatic 181, 0, 0, 0), (269, .invokevirtual 148, 0, 0, 0), (272, .areturn, 0, 0, 0), (273, .aload_n 0, 0, 0, 0), (274, .aload_n 1, 0, 0, 0), (275, .aload_n 2, 0, 0, 0), (276, .iload_n 3, 0, 0, 0), (277, .invokevirtual 184, 0, 0, 0), (280, .areturn, 0, 0, 0), (281, .aload_n 0, 0, 0, 0), (282, .aload_n 1, 0, 0, 0), (283, .aload_n 2, 0, 0, 0), (284, .iload_n 3, 0, 0, 0), (285, .invokevirtual 187, 0, 0, 0), (288, .areturn, 0, 0, 0)]
/-- NeedMachine$Store.makeNumber(I)LNeedMachine$Value; -/
def zm_c38 : List (Nat × zm_I) := [(0, .aload_n 0, 0, 0, 0), (1, .iconst 0, 0, 0, 0), (2, .invokevirtual 44, 0, 0, 0), (5, .astore_n 2, 0, 0, 0), (6, .aload_n 2, 0, 0, 0), (7, .iload_n 1, 0, 0, 0), (8, .putfield 48, 3, 1, 0), (11, .aload_n 2, 0, 0, 0), (12, .areturn, 0, 0, 0)]
/-- NeedMachine$Store.nextValue(I)LNeedMachine$Value; -/
def zm_c39 : List (Nat × zm_I) := [(0, .aload_n 0, 0, 0, 0), (1, .getfield 35, 2, 4, 0), (4, .aload_n 0, 0, 0, 0), (5, .getfield 25, 2, 1, 0), (8, .invokevirtual 62, 0, 0, 0), (11, .if_icmp .lt 18, 0, 0, 0), (14, .aload_n 0, 0, 0, 0), (15, .getfield 25, 2, 1, 0), (18, .new 9, 3, 0, 0), (21, .dup, 0, 0, 0), (22, .invokespecial 11, 0, 0, 0), (25, .invokevirtual 69, 0, 0, 0), (28, .pop, 0, 0, 0), (29, .aload_n 0, 0, 0, 0), (30, .getfield 25, 2, 1, 0), (33, .aload_n 0, 0, 0, 0), (34, .getfield 35, 2, 4, 0), (37, .invokevirtual 73, 0, 0, 0), (40, .checkcast 9, 3, 0, 0), (43, .astore_n 2, 0, 0, 0), (44, .aload_n 0, 0, 0, 0), (45, .dup, 0, 0, 0), (46, .getfield 35, 2, 4, 0), (49, .iconst 1, 0, 0, 0), (50, .iadd, 0, 0, 0), (51, .putfield 35, 2, 4, 0), (54, .aload_n 2, 0, 0, 0), (55, .iload_n 1, 0, 0, 0), (56, .putfield 18, 3, 0, 0), (59, .aload_n 2, 0, 0, 0), (60, .areturn, 0, 0, 0)]
/-- NeedMachine.argumentAt(LNeedMachine$Arguments;I)LNeedMachine$Closure; -/
def zm_c40 : List (Nat × zm_I) := [(0, .aload_n 0, 0, 0, 0), (1, .astore_n 2, 0, 0, 0), (2, .aload_n 2, 0, 0, 0), (3, .ifnull 26, 0, 0, 0), (6, .aload_n 2, 0, 0, 0), (7, .getfield 214, 9, 2, 0), (10, .iload_n 1, 0, 0, 0), (11, .iconst 1, 0, 0, 0), (12, .iadd, 0, 0, 0), (13, .if_icmp .ne 8, 0, 0, 0), (16, .aload_n 2, 0, 0, 0), (17, .getfield 259, 9, 1, 0), (20, .areturn, 0, 0, 0), (21, .aload_n 2, 0, 0, 0), (22, .getfield 262, 9, 0, 0), (25, .astore_n 2, 0, 0, 0), (26, .goto (-24), 0, 0, 0)]
/-- NeedMachine.force(LNeedMachine$Closure;I)LNeedMachine$Value; -/
def zm_c41 : List (Nat × zm_I) := [(0, .aload_n 1, 0, 0, 0), (1, .getfield 235, 8, 2, 0), (4, .ifCond .eq 18, 0, 0, 0), (7, .aload_n 0, 0, 0, 0), (8, .dup, 0, 0, 0), (9, .getfield 121, 0, 7, 0), (12, .iconst 1, 0, 0, 0), (13, .iadd, 0, 0, 0), (14, .putfield 121, 0, 7, 0), (17, .aload_n 1, 0, 0, 0), (18, .invokestatic 241, 0, 0, 0), (21, .areturn, 0, 0, 0), (22, .aload_n 1, 0, 0, 0), (23, .iconst 1, 0, 0, 0), (24, .putfield 235, 8, 2, 0), (27, .aload_n 0, 0, 0, 0), (28, .dup, 0, 0, 0), (29, .getfield 118, 0, 6, 0), (32, .iconst 1, 0, 0, 0), (33, .iadd, 0, 0, 0), (34, .putfield 118, 0, 6, 0), (37, .aload_n 0, 0, 0, 0), (38, .aload_n 1, 0, 0, 0), (39, .getfield 245, 8, 0, 0), (42, .aload_n 1, 0, 0, 0), (43, .getfield 248, 8, 1, 0), (46, .iload_n 2, 0, 0, 0), (47, .iconst 1, 0, 0, 0), (48, .iadd, 0, 0, 0), (49, .invokevirtual 61, 0, 0, 0), (52, .astore_n 3, 0, 0, 0), (53, .aload_n 1, 0, 0, 0), (54, .aload_n 3, 0, 0, 0), (55, .putfield 251, 8, 3, 0), (58, .aload_n 3, 0, 0, 0), (59, .areturn, 0, 0, 0)]
/-- NeedMachine.mustBeWorkedOut(LNeedMachine$Closure;)LNeedMachine$Value; -/
def zm_c42 : List (Nat × zm_I) := [(0, .aload_n 0, 0, 0, 0), (1, .getfield 251, 8, 3, 0), (4, .ifnonnull 14, 0, 0, 0), (18, .aload_n 0, 0, 0, 0), (19, .getfield 251, 8, 3, 0), (22, .areturn, 0, 0, 0)]
/-- NeedMachine.workName(II)LNeedMachine$Value; -/
def zm_c43 : List (Nat × zm_I) := [(0, .aload_n 0, 0, 0, 0), (1, .iload_n 1, 0, 0, 0), (2, .invokevirtual 101, 0, 0, 0), (5, .astore_n 3, 0, 0, 0), (6, .aload_n 3, 0, 0, 0), (7, .getfield 41, 6, 1, 0), (10, .ifCond .ne 11, 0, 0, 0), (13, .aload_n 0, 0, 0, 0), (14, .aload_n 3, 0, 0, 0), (15, .aconst_null, 0, 0, 0), (16, .iload_n 2, 0, 0, 0), (17, .invokevirtual 190, 0, 0, 0), (20, .areturn, 0, 0, 0), (21, .aload_n 0, 0, 0, 0), (22, .getfield 19, 0, 1, 0), (25, .iload_n 1, 0, 0, 0), (26, .aconst_null, 0, 0, 0), (27, .invokevirtual 194, 0, 0, 0), (30, .areturn, 0, 0, 0)]
/-- NeedMachine.definitionOf(I)LNeedMachine$Definition; -/
def zm_c44 : List (Nat × zm_I) := [(0, .aload_n 0, 0, 0, 0), (1, .getfield 25, 0, 2, 0), (4, .iload_n 1, 0, 0, 0), (5, .aaload, 0, 0, 0), (6, .astore_n 2, 0, 0, 0), (7, .aload_n 2, 0, 0, 0), (8, .ifnonnull 14, 0, 0, 0), (22, .aload_n 2, 0, 0, 0), (23, .areturn, 0, 0, 0)]
/-- NeedMachine.call(LNeedMachine$Definition;LNeedMachine$Arguments;I)LNeedMachine$Value; -/
def zm_c45 : List (Nat × zm_I) := [(0, .aload_n 0, 0, 0, 0), (1, .getfield 55, 0, 4, 0), (4, .sipush 400, 0, 0, 0), (7, .if_icmp .lt 13, 0, 0, 0), (20, .aload_n 0, 0, 0, 0), (21, .dup, 0, 0, 0), (22, .getfield 55, 0, 4, 0), (25, .iconst 1, 0, 0, 0), (26, .iadd, 0, 0, 0), (27, .putfield 55, 0, 4, 0), (30, .aload_n 0, 0, 0, 0), (31, .dup, 0, 0, 0), (32, .getfield 115, 0, 5, 0), (35, .iconst 1, 0, 0, 0), (36, .iadd, 0, 0, 0), (37, .putfield 115, 0, 5, 0), (40, .aload_n 0, 0, 0, 0), (41, .aload_n 1, 0, 0, 0), (42, .getfield 221, 6, 2, 0), (45, .aload_n 2, 0, 0, 0), (46, .iload_n 3, 0, 0, 0), (47, .iconst 1, 0, 0, 0), (48, .iadd, 0, 0, 0), (49, .invokevirtual 61, 0, 0, 0), (52, .areturn, 0, 0, 0)]
/-- NeedMachine$Store.makeFunction(ILNeedMachine$Arguments;)LNeedMachine$Value; -/
def zm_c46 : List (Nat × zm_I) := [(0, .aload_n 0, 0, 0, 0), (1, .iconst 3, 0, 0, 0), (2, .invokevirtual 44, 0, 0, 0), (5, .astore_n 3, 0, 0, 0), (6, .aload_n 3, 0, 0, 0), (7, .iload_n 1, 0, 0, 0), (8, .putfield 48, 3, 1, 0), (11, .aload_n 3, 0, 0, 0), (12, .aload_n 2, 0, 0, 0), (13, .putfield 58, 3, 4, 0), (16, .aload_n 3, 0, 0, 0), (17, .areturn, 0, 0, 0)]
/-- NeedMachine.closureOf(LNeedMachine$Expression;LNeedMachine$Arguments;)LNeedMachine$Closure; -/
def zm_c47 : List (Nat × zm_I) := [(0, .aload_n 1, 0, 0, 0), (1, .getfield 139, 7, 0, 0), (4, .bipush 97, 0, 0, 0), (6, .if_icmp .ne 12, 0, 0, 0), (9, .aload_n 2, 0, 0, 0), (10, .aload_n 1, 0, 0, 0), (11, .getfield 145, 7, 1, 0), (14, .invokestatic 155, 0, 0, 0), (17, .areturn, 0, 0, 0), (18, .aload_n 0, 0, 0, 0), (19, .getfield 19, 0, 1, 0), (22, .aload_n 1, 0, 0, 0), (23, .aload_n 2, 0, 0, 0), (24, .invokevirtual 254, 0, 0, 0), (27, .areturn, 0, 0, 0)]
/-- NeedMachine$Store.makeClosure(LNeedMachine$Expression;LNeedMachine$Arguments;)LNeedMachine$Closure; -/
def zm_c48 : List (Nat × zm_I) := [(0, .aload_n 0, 0, 0, 0), (1, .getfield 38, 2, 5, 0), (4, .aload_n 0, 0, 0, 0), (5, .getfield 29, 2, 2, 0), (8, .invokevirtual 62, 0, 0, 0), (11, .if_icmp .lt 18, 0, 0, 0), (14, .aload_n 0, 0, 0, 0), (15, .getfield 29, 2, 2, 0), (18, .new 66, 8, 0, 0), (21, .dup, 0, 0, 0), (22, .invokespecial 68, 0, 0, 0), (25, .invokevirtual 69, 0, 0, 0), (28, .pop, 0, 0, 0), (29, .aload_n 0, 0, 0, 0), (30, .getfield 29, 2, 2, 0), (33, .aload_n 0, 0, 0, 0), (34, .getfield 38, 2, 5, 0), (37, .invokevirtual 73, 0, 0, 0), (40, .checkcast 66, 8, 0, 0), (43, .astore_n 3, 0, 0, 0), (44, .aload_n 0, 0, 0, 0), (45, .dup, 0, 0, 0), (46, .getfield 38, 2, 5, 0), (49, .iconst 1, 0, 0, 0), (50, .iadd, 0, 0, 0), (51, .putfield 38, 2, 5, 0), (54, .aload_n 3, 0, 0, 0), (55, .aload_n 1, 0, 0, 0), (56, .putfield 77, 8, 0, 0), (59, .aload_n 3, 0, 0, 0), (60, .aload_n 2, 0, 0, 0), (61, .putfield 81, 8, 1, 0), (64, .aload_n 3, 0, 0, 0), (65, .iconst 0, 0, 0, 0), (66, .putfield 84, 8, 2, 0), (69, .aload_n 3, 0, 0, 0), (70, .aconst_null, 0, 0, 0), (71, .putfield 88, 8, 3, 0), (74, .aload_n 3, 0, 0, 0), (75, .areturn, 0, 0, 0)]
/-- NeedMachine$Closure.<init>()V -/
def zm_c49 : List (Nat × zm_I) := [(0, .aload_n 0, 0, 0, 0), (1, .invokespecial 1, 0, 0, 0), (4, .return_, 0, 0, 0)]
/-- NeedMachine$Store.makePair(LNeedMachine$Closure;LNeedMachine$Closure;)LNeedMachine$Value; -/
def zm_c50 : List (Nat × zm_I) := [(0, .aload_n 0, 0, 0, 0), (1, .iconst 2, 0, 0, 0), (2, .invokevirtual 44, 0, 0, 0), (5, .astore_n 3, 0, 0, 0), (6, .aload_n 3, 0, 0, 0), (7, .aload_n 1, 0, 0, 0), (8, .putfield 51, 3, 2, 0), (11, .aload_n 3, 0, 0, 0), (12, .aload_n 2, 0, 0, 0), (13, .putfield 55, 3, 3, 0), (16, .aload_n 3, 0, 0, 0), (17, .areturn, 0, 0, 0)]
/-- NeedMachine.apply(LNeedMachine$Expression;LNeedMachine$Arguments;I)LNeedMachine$Value; -/
def zm_c51 : List (Nat × zm_I) := [(0, .aload_n 0, 0, 0, 0), (1, .aload_n 1, 0, 0, 0), (2, .getfield 163, 7, 2, 0), (5, .aload_n 2, 0, 0, 0), (6, .iload_n 3, 0, 0, 0), (7, .iconst 1, 0, 0, 0), (8, .iadd, 0, 0, 0), (9, .invokevirtual 61, 0, 0, 0), (12, .astore 4, 0, 0, 0), (14, .aload 4, 0, 0, 0), (16, .getfield 65, 3, 0, 0), (19, .iconst 3, 0, 0, 0), (20, .if_icmp .eq 13, 0, 0, 0), (33, .aload_n 0, 0, 0, 0), (34, .aload 4, 0, 0, 0), (36, .getfield 203, 3, 1, 0), (39, .invokevirtual 101, 0, 0, 0), (42, .astore 5, 0, 0, 0), (44, .aload_n 0, 0, 0, 0), (45, .getfield 19, 0, 1, 0), (48, .aload 4, 0, 0, 0), (50, .getfield 206, 3, 4, 0), (53, .aload_n 0, 0, 0, 0), (54, .aload_n 1, 0, 0, 0), (55, .getfield 171, 7, 3, 0), (58, .aload_n 2, 0, 0, 0), (59, .invokevirtual 167, 0, 0, 0), (62, .invokevirtual 210, 0, 0, 0), (65, .astore 6, 0, 0, 0), (67, .aload 6, 0, 0, 0), (69, .getfield 214, 9, 2, 0), (72, .aload 5, 0, 0, 0), (74, .getfield 41, 6, 1, 0), (77, .if_icmp .ge 18, 0, 0, 0), (80, .aload_n 0, 0, 0, 0), (81, .getfield 19, 0, 1, 0), (84, .aload 4, 0, 0, 0), (86, .getfield 203, 3, 1, 0), (89, .aload 6, 0, 0, 0), (91, .invokevirtual 194, 0, 0, 0), (94, .areturn, 0, 0, 0), (95, .aload_n 0, 0, 0, 0), (96, .aload 5, 0, 0, 0), (98, .aload 6, 0, 0, 0), (100, .iload_n 3, 0, 0, 0), (101, .invokevirtual 190, 0, 0, 0), (104, .areturn, 0, 0, 0)]
/-- NeedMachine$Store.makeArguments(LNeedMachine$Arguments;LNeedMachine$Closure;)LNeedMachine$Arguments; -/
def zm_c52 : List (Nat × zm_I) := [(0, .aload_n 0, 0, 0, 0), (1, .getfield 41, 2, 6, 0), (4, .aload_n 0, 0, 0, 0), (5, .getfield 32, 2, 3, 0), (8, .invokevirtual 62, 0, 0, 0), (11, .if_icmp .lt 18, 0, 0, 0), (14, .aload_n 0, 0, 0, 0), (15, .getfield 32, 2, 3, 0), (18, .new 91, 9, 0, 0), (21, .dup, 0, 0, 0), (22, .invokespecial 93, 0, 0, 0), (25, .invokevirtual 69, 0, 0, 0), (28, .pop, 0, 0, 0), (29, .aload_n 0, 0, 0, 0), (30, .getfield 32, 2, 3, 0), (33, .aload_n 0, 0, 0, 0), (34, .getfield 41, 2, 6, 0), (37, .invokevirtual 73, 0, 0, 0), (40, .checkcast 91, 9, 0, 0), (43, .astore_n 3, 0, 0, 0), (44, .aload_n 0, 0, 0, 0), (45, .dup, 0, 0, 0), (46, .getfield 41, 2, 6, 0), (49, .iconst 1, 0, 0, 0), (50, .iadd, 0, 0, 0), (51, .putfield 41, 2, 6, 0), (54, .aload_n 3, 0, 0, 0), (55, .aload_n 1, 0, 0, 0), (56, .putfield 94, 9, 0, 0), (59, .aload_n 3, 0, 0, 0), (60, .aload_n 2, 0, 0, 0), (61, .putfield 97, 9, 1, 0), (64, .aload_n 3, 0, 0, 0), (65, .aload_n 1, 0, 0, 0), (66, .ifnonnull 7, 0, 0, 0), (69, .iconst 1, 0, 0, 0), (70, .goto 9, 0, 0, 0), (73, .aload_n 1, 0, 0, 0), (74, .getfield 100, 9, 2, 0), (77, .iconst 1, 0, 0, 0), (78, .iadd, 0, 0, 0), (79, .putfield 100, 9, 2, 0), (82, .aload_n 3, 0, 0, 0), (83, .areturn, 0, 0, 0)]
/-- NeedMachine$Arguments.<init>()V -/
def zm_c53 : List (Nat × zm_I) := [(0, .aload_n 0, 0, 0, 0), (1, .invokespecial 1, 0, 0, 0), (4, .return_, 0, 0, 0)]
/-- NeedMachine.mustBePair(LNeedMachine$Value;)LNeedMachine$Value; -/
def zm_c54 : List (Nat × zm_I) := [(0, .aload_n 0, 0, 0, 0), (1, .getfield 65, 3, 0, 0), (4, .iconst 1, 0, 0, 0), (5, .if_icmp .ne 14, 0, 0, 0), (19, .aload_n 0, 0, 0, 0), (20, .getfield 65, 3, 0, 0), (23, .iconst 2, 0, 0, 0), (24, .if_icmp .eq 14, 0, 0, 0), (38, .aload_n 0, 0, 0, 0), (39, .areturn, 0, 0, 0)]
/-- NeedMachine.isNil(LNeedMachine$Value;)I -/
def zm_c55 : List (Nat × zm_I) := [(0, .aload_n 0, 0, 0, 0), (1, .getfield 65, 3, 0, 0), (4, .iconst 1, 0, 0, 0), (5, .if_icmp .eq 22, 0, 0, 0), (8, .aload_n 0, 0, 0, 0), (9, .getfield 65, 3, 0, 0), (12, .iconst 2, 0, 0, 0), (13, .if_icmp .eq 14, 0, 0, 0), (27, .aload_n 0, 0, 0, 0), (28, .getfield 65, 3, 0, 0), (31, .iconst 1, 0, 0, 0), (32, .if_icmp .ne 7, 0, 0, 0), (35, .iconst 1, 0, 0, 0), (36, .goto 4, 0, 0, 0), (39, .iconst 0, 0, 0, 0), (40, .ireturn, 0, 0, 0)]
/-- NeedMachine.choose(LNeedMachine$Expression;LNeedMachine$Arguments;I)LNeedMachine$Value; -/
def zm_c56 : List (Nat × zm_I) := [(0, .aload_n 0, 0, 0, 0), (1, .aload_n 1, 0, 0, 0), (2, .getfield 163, 7, 2, 0), (5, .aload_n 2, 0, 0, 0), (6, .iload_n 3, 0, 0, 0), (7, .iconst 1, 0, 0, 0), (8, .iadd, 0, 0, 0), (9, .invokevirtual 61, 0, 0, 0), (12, .invokestatic 77, 0, 0, 0), (15, .istore 4, 0, 0, 0), (17, .aload_n 0, 0, 0, 0), (18, .iload 4, 0, 0, 0), (20, .ifCond .eq 10, 0, 0, 0), (23, .aload_n 1, 0, 0, 0), (24, .getfield 171, 7, 3, 0), (27, .goto 7, 0, 0, 0), (30, .aload_n 1, 0, 0, 0), (31, .getfield 224, 7, 4, 0), (34, .aload_n 2, 0, 0, 0), (35, .iload_n 3, 0, 0, 0), (36, .iconst 1, 0, 0, 0), (37, .iadd, 0, 0, 0), (38, .invokevirtual 61, 0, 0, 0), (41, .areturn, 0, 0, 0)]
/-- NeedMachine.mustBeNumber(LNeedMachine$Value;)I -/
def zm_c57 : List (Nat × zm_I) := [(0, .aload_n 0, 0, 0, 0), (1, .getfield 65, 3, 0, 0), (4, .ifCond .eq 14, 0, 0, 0), (18, .aload_n 0, 0, 0, 0), (19, .getfield 203, 3, 1, 0), (22, .ireturn, 0, 0, 0)]
/-- NeedMachine.reckon(LNeedMachine$Expression;LNeedMachine$Arguments;I)LNeedMachine$Value; -/
def zm_c58 : List (Nat × zm_I) := [(0, .aload_n 0, 0, 0, 0), (1, .aload_n 1, 0, 0, 0), (2, .getfield 163, 7, 2, 0), (5, .aload_n 2, 0, 0, 0), (6, .iload_n 3, 0, 0, 0), (7, .iconst 1, 0, 0, 0), (8, .iadd, 0, 0, 0), (9, .invokevirtual 61, 0, 0, 0), (12, .invokestatic 77, 0, 0, 0), (15, .istore 4, 0, 0, 0), (17, .aload_n 0, 0, 0, 0), (18, .aload_n 1, 0, 0, 0), (19, .getfield 171, 7, 3, 0), (22, .aload_n 2, 0, 0, 0), (23, .iload_n 3, 0, 0, 0), (24, .iconst 1, 0, 0, 0), (25, .iadd, 0, 0, 0), (26, .invokevirtual 61, 0, 0, 0), (29, .invokestatic 77, 0, 0, 0), (32, .istore 5, 0, 0, 0), (34, .aload_n 0, 0, 0, 0), (35, .getfield 19, 0, 1, 0), (38, .aload_n 1, 0, 0, 0), (39, .getfield 139, 7, 0, 0), (42, .iload 4, 0, 0, 0), (44, .iload 5, 0, 0, 0), (46, .invokestatic 227, 0, 0, 0), (49, .invokevirtual 148, 0, 0, 0), (52, .areturn, 0, 0, 0)]
/-- NeedMachine.reckonNumbers(CII)I -/
def zm_c59 : List (Nat × zm_I) := [(0, .iload_n 0, 0, 0, 0), (1, .lookupswitch 96 #[(37, 78), (42, 67), (43, 59), (45, 63), (47, 71), (60, 85)], 59, 0, 0), (60, .iload_n 1, 0, 0, 0), (61, .iload_n 2, 0, 0, 0), (62, .iadd, 0, 0, 0), (63, .ireturn, 0, 0, 0), (64, .iload_n 1, 0, 0, 0), (65, .iload_n 2, 0, 0, 0), (66, .isub, 0, 0, 0), (67, .ireturn, 0, 0, 0), (68, .iload_n 1, 0, 0, 0), (69, .iload_n 2, 0, 0, 0), (70, .imul, 0, 0, 0), (71, .ireturn, 0, 0, 0), (72, .iload_n 1, 0, 0, 0), (73, .iload_n 2, 0, 0, 0), (74, .invokestatic 231, 0, 0, 0), (77, .idiv, 0, 0, 0), (78, .ireturn, 0, 0, 0), (79, .iload_n 1, 0, 0, 0), (80, .iload_n 2, 0, 0, 0), (81, .invokestatic 231, 0, 0, 0), (84, .irem, 0, 0, 0), (85, .ireturn, 0, 0, 0), (86, .iload_n 1, 0, 0, 0), (87, .iload_n 2, 0, 0, 0), (88, .if_icmp .ge 7, 0, 0, 0), (91, .iconst 1, 0, 0, 0), (92, .goto 4, 0, 0, 0), (95, .iconst 0, 0, 0, 0), (96, .ireturn, 0, 0, 0), (97, .iload_n 1, 0, 0, 0), (98, .iload_n 2, 0, 0, 0), (99, .if_icmp .ne 7, 0, 0, 0), (102, .iconst 1, 0, 0, 0), (103, .goto 4, 0, 0, 0), (106, .iconst 0, 0, 0, 0), (107, .ireturn, 0, 0, 0)]
/-- NeedMachine.mustNotBeZero(I)I -/
def zm_c60 : List (Nat × zm_I) := [(0, .iload_n 0, 0, 0, 0), (1, .ifCond .ne 14, 0, 0, 0), (15, .iload_n 0, 0, 0, 0), (16, .ireturn, 0, 0, 0)]
/-- NeedMachineLaw.number(LNeedMachine;[J)I -/
def zm_c61 : List (Nat × zm_I) := [(0, .aload_n 1, 0, 0, 0), (1, .iconst 0, 0, 0, 0), (2, .aload_n 0, 0, 0, 0), (3, .invokevirtual 30, 0, 0, 0), (6, .i2l, 0, 0, 0), (7, .lastore, 0, 0, 0), (8, .goto 9, 0, 0, 0), (11, .astore_n 2, 0, 0, 0), (12, .iconst 1, 0, 0, 0), (13, .ireturn, 0, 0, 0), (14, .astore_n 2, 0, 0, 0), (15, .iconst 2, 0, 0, 0), (16, .ireturn, 0, 0, 0), (17, .iconst 0, 0, 0, 0), (18, .ireturn, 0, 0, 0)]
/-- NeedMachine.number()I -/
def zm_c62 : List (Nat × zm_I) := [(0, .aload_n 0, 0, 0, 0), (1, .getfield 48, 0, 3, 0), (4, .ifnonnull 13, 0, 0, 0), (17, .aload_n 0, 0, 0, 0), (18, .getfield 48, 0, 3, 0), (21, .invokestatic 77, 0, 0, 0), (24, .ireturn, 0, 0, 0)]
/-- NeedMachineLaw.head(LNeedMachine;[J)I -/
def zm_c63 : List (Nat × zm_I) := [(0, .aload_n 1, 0, 0, 0), (1, .iconst 0, 0, 0, 0), (2, .aload_n 0, 0, 0, 0), (3, .invokevirtual 33, 0, 0, 0), (6, .i2l, 0, 0, 0), (7, .lastore, 0, 0, 0), (8, .goto 15, 0, 0, 0), (11, .astore_n 2, 0, 0, 0), (12, .iconst 1, 0, 0, 0), (13, .ireturn, 0, 0, 0), (14, .astore_n 2, 0, 0, 0), (15, .iconst 2, 0, 0, 0), (16, .ireturn, 0, 0, 0), (17, .astore_n 2, 0, 0, 0), (18, .iconst 3, 0, 0, 0), (19, .ireturn, 0, 0, 0), (20, .astore_n 2, 0, 0, 0), (21, .iconst 4, 0, 0, 0), (22, .ireturn, 0, 0, 0), (23, .iconst 0, 0, 0, 0), (24, .ireturn, 0, 0, 0)]
/-- NeedMachine.head()I -/
def zm_c64 : List (Nat × zm_I) := [(0, .aload_n 0, 0, 0, 0), (1, .invokevirtual 81, 0, 0, 0), (4, .astore_n 1, 0, 0, 0), (5, .aload_n 0, 0, 0, 0), (6, .aload_n 1, 0, 0, 0), (7, .getfield 85, 3, 2, 0), (10, .iconst 0, 0, 0, 0), (11, .invokevirtual 89, 0, 0, 0), (14, .invokestatic 77, 0, 0, 0), (17, .istore_n 2, 0, 0, 0), (18, .aload_n 0, 0, 0, 0), (19, .aload_n 1, 0, 0, 0), (20, .putfield 48, 0, 3, 0), (23, .iload_n 2, 0, 0, 0), (24, .ireturn, 0, 0, 0)]
/-- NeedMachine.takeResultPair()LNeedMachine$Value; -/
def zm_c65 : List (Nat × zm_I) := [(0, .aload_n 0, 0, 0, 0), (1, .getfield 48, 0, 3, 0), (4, .astore_n 1, 0, 0, 0), (5, .aload_n 0, 0, 0, 0), (6, .aconst_null, 0, 0, 0), (7, .putfield 48, 0, 3, 0), (10, .aload_n 1, 0, 0, 0), (11, .ifnonnull 13, 0, 0, 0), (24, .aload_n 1, 0, 0, 0), (25, .invokestatic 124, 0, 0, 0), (28, .areturn, 0, 0, 0)]
/-- NeedMachineLaw.tail(LNeedMachine;[J)I -/
def zm_c66 : List (Nat × zm_I) := [(0, .aload_n 1, 0, 0, 0), (1, .iconst 0, 0, 0, 0), (2, .aload_n 0, 0, 0, 0), (3, .invokevirtual 36, 0, 0, 0), (6, .i2l, 0, 0, 0), (7, .lastore, 0, 0, 0), (8, .goto 15, 0, 0, 0), (11, .astore_n 2, 0, 0, 0), (12, .iconst 1, 0, 0, 0), (13, .ireturn, 0, 0, 0), (14, .astore_n 2, 0, 0, 0), (15, .iconst 2, 0, 0, 0), (16, .ireturn, 0, 0, 0), (17, .astore_n 2, 0, 0, 0), (18, .iconst 3, 0, 0, 0), (19, .ireturn, 0, 0, 0), (20, .astore_n 2, 0, 0, 0), (21, .iconst 4, 0, 0, 0), (22, .ireturn, 0, 0, 0), (23, .iconst 0, 0, 0, 0), (24, .ireturn, 0, 0, 0)]
/-- NeedMachine.tail()I -/
def zm_c67 : List (Nat × zm_I) := [(0, .aload_n 0, 0, 0, 0), (1, .invokevirtual 81, 0, 0, 0), (4, .astore_n 1, 0, 0, 0), (5, .aload_n 0, 0, 0, 0), (6, .aload_n 0, 0, 0, 0), (7, .aload_n 1, 0, 0, 0), (8, .getfield 93, 3, 3, 0), (11, .iconst 0, 0, 0, 0), (12, .invokevirtual 89, 0, 0, 0), (15, .putfield 48, 0, 3, 0), (18, .aload_n 0, 0, 0, 0), (19, .getfield 48, 0, 3, 0), (22, .getfield 65, 3, 0, 0), (25, .ireturn, 0, 0, 0)]
/-- NeedMachineLaw.remove(LNeedMachine;I)I -/
def zm_c68 : List (Nat × zm_I) := [(0, .aload_n 0, 0, 0, 0), (1, .iload_n 1, 0, 0, 0), (2, .invokevirtual 39, 0, 0, 0), (5, .goto 9, 0, 0, 0), (8, .astore_n 2, 0, 0, 0), (9, .iconst 1, 0, 0, 0), (10, .ireturn, 0, 0, 0), (11, .astore_n 2, 0, 0, 0), (12, .iconst 2, 0, 0, 0), (13, .ireturn, 0, 0, 0), (14, .iconst 0, 0, 0, 0), (15, .ireturn, 0, 0, 0)]
/-- NeedMachine.remove(I)V -/
def zm_c69 : List (Nat × zm_I) := [(0, .iload_n 1, 0, 0, 0), (1, .ifCond .lt 9, 0, 0, 0), (4, .iload_n 1, 0, 0, 0), (5, .bipush 6, 0, 0, 0), (7, .if_icmp .lt 13, 0, 0, 0), (20, .aload_n 0, 0, 0, 0), (21, .iload_n 1, 0, 0, 0), (22, .invokevirtual 101, 0, 0, 0), (25, .pop, 0, 0, 0), (26, .aload_n 0, 0, 0, 0), (27, .getfield 25, 0, 2, 0), (30, .iload_n 1, 0, 0, 0), (31, .aconst_null, 0, 0, 0), (32, .aastore, 0, 0, 0), (33, .return_, 0, 0, 0)]
/-- NeedMachineModel.<init>()V -/
def zm_c70 : List (Nat × zm_I) := [(0, .aload_n 0, 0, 0, 0), (1, .invokespecial 1, 0, 0, 0), (4, .aload_n 0, 0, 0, 0), (5, .bipush 40, 0, 0, 0), (7, .newarray .int, 0, 0, 0), (9, .putfield 7, 5, 0, 0), (12, .aload_n 0, 0, 0, 0), (13, .sipush 21200, 0, 0, 0), (16, .newarray .int, 0, 0, 0), (18, .putfield 13, 5, 1, 0), (21, .aload_n 0, 0, 0, 0), (22, .sipush 240, 0, 0, 0), (25, .newarray .int, 0, 0, 0), (27, .putfield 16, 5, 2, 0), (30, .aload_n 0, 0, 0, 0), (31, .bipush 6, 0, 0, 0), (33, .newarray .int, 0, 0, 0), (35, .putfield 19, 5, 3, 0), (38, .aload_n 0, 0, 0, 0), (39, .bipush 24, 0, 0, 0), (41, .newarray .int, 0, 0, 0), (43, .putfield 22, 5, 4, 0), (46, .aload_n 0, 0, 0, 0), (47, .bipush 6, 0, 0, 0), (49, .newarray .int, 0, 0, 0), (51, .putfield 25, 5, 5, 0), (54, .aload_n 0, 0, 0, 0), (55, .bipush 16, 0, 0, 0), (57, .newarray .int, 0, 0, 0), (59, .putfield 28, 5, 6, 0), (62, .aload_n 0, 0, 0, 0), (63, .bipush 6, 0, 0, 0), (65, .newarray .boolean, 3, 0, 0), (67, .putfield 31, 5, 7, 0), (70, .aload_n 0, 0, 0, 0), (71, .iconst (-1), 0, 0, 0), (72, .putfield 35, 5, 9, 0), (75, .aload_n 0, 0, 0, 0), (76, .sipush 16400, 0, 0, 0), (79, .newarray .int, 0, 0, 0), (81, .putfield 39, 5, 13, 0), (84, .aload_n 0, 0, 0, 0), (85, .sipush 16400, 0, 0, 0), (88, .newarray .int, 0, 0, 0), (90, .putfield 42, 5, 14, 0), (93, .aload_n 0, 0, 0, 0), (94, .sipush 16400, 0, 0, 0), (97, .newarray .int, 0, 0, 0), (99, .putfield 45, 5, 15, 0), (102, .aload_n 0, 0, 0, 0), (103, .sipush 16400, 0, 0, 0), (106, .newarray .int, 0, 0, 0), (108, .putfield 48, 5, 16, 0), (111, .aload_n 0, 0, 0, 0), (112, .sipush 16400, 0, 0, 0), (115, .newarray .int, 0, 0, 0), (117, .putfield 51, 5, 17, 0), (120, .aload_n 0, 0, 0, 0), (121, .sipush 16400, 0, 0, 0), (124, .newarray .int, 0, 0, 0), (126, .putfield 54, 5, 18, 0), (129, .aload_n 0, 0, 0, 0), (130, .sipush 1700, 0, 0, 0), (133, .newarray .int, 0, 0, 0), (135, .putfield 57, 5, 19, 0), (138, .aload_n 0, 0, 0, 0), (139, .sipush 1700, 0, 0, 0), (142, .newarray .int, 0, 0, 0), (144, .putfield 60, 5, 20, 0), (147, .aload_n 0, 0, 0, 0), (148, .sipush 16400, 0, 0, 0), (151, .newarray .int, 0, 0, 0), (153, .putfield 63, 5, 21, 0), (156, .aload_n 0, 0, 0, 0), (157, .sipush 16400, 0, 0, 0), (160, .newarray .int, 0, 0, 0), (162, .putfield 66, 5, 22, 0), (165, .aload_n 0, 0, 0, 0), (166, .bipush 64, 0, 0, 0), (168, .newarray .int, 0, 0, 0), (170, .putfield 69, 5, 26, 0), (173, .aload_n 0, 0, 0, 0), (174, .bipush 64, 0, 0, 0), (176, .newarray .int, 0, 0, 0), (178, .putfield 72, 5, 27, 0), (181, .aload_n 0, 0, 0, 0), (182, .bipush 64, 0, 0, 0), (184, .newarray .int, 0, 0, 0), (186, .putfield 75, 5, 28, 0), (189, .aload_n 0, 0, 0, 0), (190, .bipush 64, 0, 0, 0), (192, .newarray .int, 0, 0, 0), (194, .putfield 78, 5, 29, 0), (197, .aload_n 0, 0, 0, 0), (198, .bipush 64, 0, 0, 0), (200, .newarray .int, 0, 0, 0), (202, .putfield 81, 5, 30, 0), (205, .return_, 0, 0, 0)]
/-- NeedMachineModel.thrown()I -/
def zm_c71 : List (Nat × zm_I) := [(0, .aload_n 0, 0, 0, 0), (1, .getfield 84, 5, 12, 0), (4, .ireturn, 0, 0, 0)]
/-- NeedMachineModel.type(J)I -/
def zm_c72 : List (Nat × zm_I) := [(0, .iconst 0, 0, 0, 0), (1, .istore_n 3, 0, 0, 0), (2, .iconst 1, 0, 0, 0), (3, .istore 4, 0, 0, 0), (5, .bipush 56, 0, 0, 0), (7, .istore 5, 0, 0, 0), (9, .iload 5, 0, 0, 0), (11, .ifCond .lt 48, 0, 0, 0), (14, .lload_n 1, 0, 0, 0), (15, .iload 5, 0, 0, 0), (17, .lushr, 0, 0, 0), (18, .l2i, 0, 0, 0), (19, .sipush 255, 0, 0, 0), (22, .iand, 0, 0, 0), (23, .istore 6, 0, 0, 0), (25, .iload 6, 0, 0, 0), (27, .ifCond .eq 6, 0, 0, 0), (30, .iinc 3 1, 0, 0, 0), (33, .iload 6, 0, 0, 0), (35, .ifCond .eq 18, 0, 0, 0), (38, .iload 6, 0, 0, 0), (40, .bipush 33, 0, 0, 0), (42, .bipush 126, 0, 0, 0), (44, .invokestatic 87, 0, 0, 0), (47, .ifCond .ne 6, 0, 0, 0), (50, .iconst 0, 0, 0, 0), (51, .istore 4, 0, 0, 0), (53, .iinc 5 (-8), 0, 0, 0), (56, .goto (-47), 0, 0, 0), (59, .aload_n 0, 0, 0, 0), (60, .iload 4, 0, 0, 0), (62, .invokevirtual 91, 0, 0, 0), (65, .ifCond .eq 5, 0, 0, 0), (68, .iconst 0, 0, 0, 0), (69, .ireturn, 0, 0, 0), (70, .aload_n 0, 0, 0, 0), (71, .getfield 95, 5, 8, 0), (74, .iload_n 3, 0, 0, 0), (75, .iadd, 0, 0, 0), (76, .bipush 40, 0, 0, 0), (78, .if_icmp .le 9, 0, 0, 0), (81, .aload_n 0, 0, 0, 0), (82, .iconst 2, 0, 0, 0), (83, .invokevirtual 98, 0, 0, 0), (86, .ireturn, 0, 0, 0), (87, .bipush 56, 0, 0, 0), (89, .istore 5, 0, 0, 0), (91, .iload 5, 0, 0, 0), (93, .ifCond .lt 49, 0, 0, 0), (96, .lload_n 1, 0, 0, 0), (97, .iload 5, 0, 0, 0), (99, .lushr, 0, 0, 0), (100, .l2i, 0, 0, 0), (101, .sipush 255, 0, 0, 0), (104, .iand, 0, 0, 0), (105, .istore 6, 0, 0, 0), (107, .iload 6, 0, 0, 0), (109, .ifCond .ne 6, 0, 0, 0), (112, .goto 24, 0, 0, 0), (115, .aload_n 0, 0, 0, 0), (116, .getfield 7, 5, 0, 0), (119, .aload_n 0, 0, 0, 0), (120, .getfield 95, 5, 8, 0), (123, .iload 6, 0, 0, 0), (125, .iastore, 0, 0, 0), (126, .aload_n 0, 0, 0, 0), (127, .dup, 0, 0, 0), (128, .getfield 95, 5, 8, 0), (131, .iconst 1, 0, 0, 0), (132, .iadd, 0, 0, 0), (133, .putfield 95, 5, 8, 0), (136, .iinc 5 (-8), 0, 0, 0), (139, .goto (-48), 0, 0, 0), (142, .aload_n 0, 0, 0, 0), (143, .getfield 95, 5, 8, 0), (146, .ireturn, 0, 0, 0)]
/-- NeedMachineModel.between(III)Z -/
def zm_c73 : List (Nat × zm_I) := [(0, .iload_n 0, 0, 0, 0), (1, .iload_n 1, 0, 0, 0), (2, .if_icmp .lt 12, 0, 0, 0), (5, .iload_n 0, 0, 0, 0), (6, .iload_n 2, 0, 0, 0), (7, .if_icmp .gt 7, 0, 0, 0), (10, .iconst 1, 0, 0, 0), (11, .goto 4, 0, 0, 0), (14, .iconst 0, 0, 0, 0), (15, .ireturn, 0, 0, 0)]
/-- NeedMachineModel.bad(Z)Z -/
def zm_c74 : List (Nat × zm_I) := [(0, .aload_n 0, 0, 0, 0), (1, .iload_n 1, 0, 0, 0), (2, .ifCond .eq 7, 0, 0, 0), (5, .iconst 0, 0, 0, 0), (6, .goto 4, 0, 0, 0), (9, .iconst 1, 0, 0, 0), (10, .putfield 84, 5, 12, 0), (13, .iload_n 1, 0, 0, 0), (14, .ifCond .ne 7, 0, 0, 0), (17, .iconst 1, 0, 0, 0), (18, .goto 4, 0, 0, 0), (21, .iconst 0, 0, 0, 0), (22, .ireturn, 0, 0, 0)]
/-- NeedMachineModel.fail(I)I -/
def zm_c75 : List (Nat × zm_I) := [(0, .aload_n 0, 0, 0, 0), (1, .iload_n 1, 0, 0, 0), (2, .putfield 84, 5, 12, 0), (5, .iconst 0, 0, 0, 0), (6, .ireturn, 0, 0, 0)]
/-- NeedMachineModel.define()I -/
def zm_c76 : List (Nat × zm_I) := [(0, .iconst 4, 0, 0, 0), (1, .newarray .int, 0, 0, 0), (3, .dup, 0, 0, 0), (4, .iconst 0, 0, 0, 0), (5, .iconst 0, 0, 0, 0), (6, .iastore, 0, 0, 0), (7, .dup, 0, 0, 0), (8, .iconst 1, 0, 0, 0), (9, .iconst 0, 0, 0, 0), (10, .iastore, 0, 0, 0), (11, .dup, 0, 0, 0), (12, .iconst 2, 0, 0, 0), (13, .iconst 0, 0, 0, 0), (14, .iastore, 0, 0, 0), (15, .dup, 0, 0, 0), (16, .iconst 3, 0, 0, 0), (17, .iconst 0, 0, 0, 0), (18, .iastore, 0, 0, 0), (19, .astore_n 1, 0, 0, 0), (20, .aload_n 0, 0, 0, 0), (21, .iconst 0, 0, 0, 0), (22, .putfield 102, 5, 10, 0), (25, .aload_n 0, 0, 0, 0), (26, .aload_n 1, 0, 0, 0), (27, .invokevirtual 115, 0, 0, 0), (30, .istore_n 2, 0, 0, 0), (31, .aload_n 0, 0, 0, 0), (32, .getfield 102, 5, 10, 0), (35, .istore_n 3, 0, 0, 0), (36, .iload_n 2, 0, 0, 0), (37, .ifCond .lt 15, 0, 0, 0), (40, .aload_n 0, 0, 0, 0), (41, .iload_n 2, 0, 0, 0), (42, .invokevirtual 119, 0, 0, 0), (45, .ifCond .eq 7, 0, 0, 0), (48, .iconst 1, 0, 0, 0), (49, .goto 4, 0, 0, 0), (52, .iconst 0, 0, 0, 0), (53, .istore 4, 0, 0, 0), (55, .iload 4, 0, 0, 0), (57, .ifCond .ne 11, 0, 0, 0), (60, .aload_n 0, 0, 0, 0), (61, .aload_n 0, 0, 0, 0), (62, .getfield 102, 5, 10, 0), (65, .putfield 35, 5, 9, 0), (68, .aload_n 0, 0, 0, 0), (69, .getfield 95, 5, 8, 0), (72, .istore 5, 0, 0, 0), (74, .iload 4, 0, 0, 0), (76, .ifCond .eq 75, 0, 0, 0), (79, .aload_n 0, 0, 0, 0), (80, .getfield 7, 5, 0, 0), (83, .iconst 0, 0, 0, 0), (84, .iaload, 0, 0, 0), (85, .bipush 65, 0, 0, 0), (87, .isub, 0, 0, 0), (88, .istore 6, 0, 0, 0), (90, .aload_n 0, 0, 0, 0), (91, .getfield 19, 5, 3, 0), (94, .iload 6, 0, 0, 0), (96, .aload_n 0, 0, 0, 0), (97, .iload_n 3, 0, 0, 0), (98, .invokevirtual 123, 0, 0, 0), (101, .iastore, 0, 0, 0), (102, .aload_n 0, 0, 0, 0), (103, .getfield 25, 5, 5, 0), (106, .iload 6, 0, 0, 0), (108, .iload_n 3, 0, 0, 0), (109, .iconst 2, 0, 0, 0), (110, .isub, 0, 0, 0), (111, .iastore, 0, 0, 0), (112, .iconst 0, 0, 0, 0), (113, .istore 7, 0, 0, 0), (115, .iload 7, 0, 0, 0), (117, .iconst 4, 0, 0, 0), (118, .if_icmp .ge 25, 0, 0, 0), (121, .aload_n 0, 0, 0, 0), (122, .getfield 22, 5, 4, 0), (125, .iload 6, 0, 0, 0), (127, .iconst 4, 0, 0, 0), (128, .imul, 0, 0, 0), (129, .iload 7, 0, 0, 0), (131, .iadd, 0, 0, 0), (132, .aload_n 1, 0, 0, 0), (133, .iload 7, 0, 0, 0), (135, .iaload, 0, 0, 0), (136, .iastore, 0, 0, 0), (137, .iinc 7 1, 0, 0, 0), (140, .goto (-25), 0, 0, 0), (143, .aload_n 0, 0, 0, 0), (144, .getfield 31, 5, 7, 0), (147, .iload 6, 0, 0, 0), (149, .iconst 1, 0, 0, 0), (150, .bastore, 0, 0, 0), (151, .aload_n 0, 0, 0, 0), (152, .iconst 0, 0, 0, 0), (153, .putfield 95, 5, 8, 0), (156, .aload_n 0, 0, 0, 0), (157, .iload 4, 0, 0, 0), (159, .invokevirtual 91, 0, 0, 0), (162, .ifCond .ne 8, 0, 0, 0), (165, .iload 5, 0, 0, 0), (167, .ifCond .ne 7, 0, 0, 0), (170, .iconst 0, 0, 0, 0), (171, .goto 6, 0, 0, 0), (174, .iload_n 3, 0, 0, 0), (175, .iconst 2, 0, 0, 0), (176, .isub, 0, 0, 0), (177, .ireturn, 0, 0, 0)]
/-- NeedMachineModel.heading([I)I -/
def zm_c77 : List (Nat × zm_I) := [(0, .iconst 0, 0, 0, 0), (1, .istore_n 2, 0, 0, 0), (2, .iconst 0, 0, 0, 0), (3, .istore_n 3, 0, 0, 0), (4, .aload_n 0, 0, 0, 0), (5, .invokevirtual 105, 0, 0, 0), (8, .bipush 65, 0, 0, 0), (10, .bipush 70, 0, 0, 0), (12, .invokestatic 87, 0, 0, 0), (15, .ifCond .ne 5, 0, 0, 0), (18, .iconst (-1), 0, 0, 0), (19, .ireturn, 0, 0, 0), (20, .aload_n 0, 0, 0, 0), (21, .dup, 0, 0, 0), (22, .getfield 102, 5, 10, 0), (25, .iconst 1, 0, 0, 0), (26, .iadd, 0, 0, 0), (27, .putfield 102, 5, 10, 0), (30, .iload_n 3, 0, 0, 0), (31, .iconst 4, 0, 0, 0), (32, .if_icmp .ge 66, 0, 0, 0), (35, .aload_n 0, 0, 0, 0), (36, .invokevirtual 105, 0, 0, 0), (39, .bipush 97, 0, 0, 0), (41, .bipush 102, 0, 0, 0), (43, .invokestatic 87, 0, 0, 0), (46, .ifCond .eq 52, 0, 0, 0), (49, .iload_n 2, 0, 0, 0), (50, .aload_n 0, 0, 0, 0), (51, .invokevirtual 105, 0, 0, 0), (54, .bipush 97, 0, 0, 0), (56, .isub, 0, 0, 0), (57, .ishr, 0, 0, 0), (58, .iconst 1, 0, 0, 0), (59, .iand, 0, 0, 0), (60, .ifCond .ne 38, 0, 0, 0), (63, .iload_n 2, 0, 0, 0), (64, .iconst 1, 0, 0, 0), (65, .aload_n 0, 0, 0, 0), (66, .invokevirtual 105, 0, 0, 0), (69, .bipush 97, 0, 0, 0), (71, .isub, 0, 0, 0), (72, .ishl, 0, 0, 0), (73, .ior, 0, 0, 0), (74, .istore_n 2, 0, 0, 0), (75, .aload_n 1, 0, 0, 0), (76, .iload_n 3, 0, 0, 0), (77, .aload_n 0, 0, 0, 0), (78, .invokevirtual 105, 0, 0, 0), (81, .iastore, 0, 0, 0), (82, .iinc 3 1, 0, 0, 0), (85, .aload_n 0, 0, 0, 0), (86, .dup, 0, 0, 0), (87, .getfield 102, 5, 10, 0), (90, .iconst 1, 0, 0, 0), (91, .iadd, 0, 0, 0), (92, .putfield 102, 5, 10, 0), (95, .goto (-65), 0, 0, 0), (98, .aload_n 0, 0, 0, 0), (99, .invokevirtual 105, 0, 0, 0), (102, .bipush 61, 0, 0, 0), (104, .if_icmp .eq 5, 0, 0, 0), (107, .iconst (-1), 0, 0, 0), (108, .ireturn, 0, 0, 0), (109, .aload_n 0, 0, 0, 0), (110, .dup, 0, 0, 0), (111, .getfield 102, 5, 10, 0), (114, .iconst 1, 0, 0, 0), (115, .iadd, 0, 0, 0), (116, .putfield 102, 5, 10, 0), (119, .iload_n 2, 0, 0, 0), (120, .ireturn, 0, 0, 0)]
/-- NeedMachineModel.look()I -/
def zm_c78 : List (Nat × zm_I) := [(0, .aload_n 0, 0, 0, 0), (1, .getfield 102, 5, 10, 0), (4, .aload_n 0, 0, 0, 0), (5, .getfield 95, 5, 8, 0), (8, .if_icmp .ge 15, 0, 0, 0), (11, .aload_n 0, 0, 0, 0), (12, .getfield 7, 5, 0, 0), (15, .aload_n 0, 0, 0, 0), (16, .getfield 102, 5, 10, 0), (19, .iaload, 0, 0, 0), (20, .goto 4, 0, 0, 0), (23, .iconst 0, 0, 0, 0), (24, .ireturn, 0, 0, 0)]
/-- NeedMachineModel.read(I)Z -/
def zm_c79 : List (Nat × zm_I) := [(0, .iconst 1, 0, 0, 0), (1, .istore_n 2, 0, 0, 0), (2, .aload_n 0, 0, 0, 0), (3, .getfield 28, 5, 6, 0), (6, .iconst 1, 0, 0, 0), (7, .iconst 1, 0, 0, 0), (8, .iastore, 0, 0, 0), (9, .iload_n 2, 0, 0, 0), (10, .ifCond .le 112, 0, 0, 0), (13, .aload_n 0, 0, 0, 0), (14, .invokevirtual 105, 0, 0, 0), (17, .istore_n 3, 0, 0, 0), (18, .iload_n 3, 0, 0, 0), (19, .invokestatic 109, 0, 0, 0), (22, .istore 4, 0, 0, 0), (24, .iload 4, 0, 0, 0), (26, .ifCond .lt 36, 0, 0, 0), (29, .iload 4, 0, 0, 0), (31, .ifCond .le 9, 0, 0, 0), (34, .iload_n 2, 0, 0, 0), (35, .bipush 12, 0, 0, 0), (37, .if_icmp .eq 25, 0, 0, 0), (40, .iload_n 3, 0, 0, 0), (41, .bipush 97, 0, 0, 0), (43, .bipush 102, 0, 0, 0), (45, .invokestatic 87, 0, 0, 0), (48, .ifCond .eq 16, 0, 0, 0), (51, .iload_n 1, 0, 0, 0), (52, .iload_n 3, 0, 0, 0), (53, .bipush 97, 0, 0, 0), (55, .isub, 0, 0, 0), (56, .ishr, 0, 0, 0), (57, .iconst 1, 0, 0, 0), (58, .iand, 0, 0, 0), (59, .ifCond .ne 5, 0, 0, 0), (62, .iconst 0, 0, 0, 0), (63, .ireturn, 0, 0, 0), (64, .aload_n 0, 0, 0, 0), (65, .dup, 0, 0, 0), (66, .getfield 102, 5, 10, 0), (69, .iconst 1, 0, 0, 0), (70, .iadd, 0, 0, 0), (71, .putfield 102, 5, 10, 0), (74, .aload_n 0, 0, 0, 0), (75, .getfield 28, 5, 6, 0), (78, .iload_n 2, 0, 0, 0), (79, .dup2, 0, 0, 0), (80, .iaload, 0, 0, 0), (81, .iconst 1, 0, 0, 0), (82, .isub, 0, 0, 0), (83, .iastore, 0, 0, 0), (84, .iload 4, 0, 0, 0), (86, .ifCond .le 14, 0, 0, 0), (89, .iinc 2 1, 0, 0, 0), (92, .aload_n 0, 0, 0, 0), (93, .getfield 28, 5, 6, 0), (96, .iload_n 2, 0, 0, 0), (97, .iload 4, 0, 0, 0), (99, .iastore, 0, 0, 0), (100, .iload_n 2, 0, 0, 0), (101, .ifCond .le 18, 0, 0, 0), (104, .aload_n 0, 0, 0, 0), (105, .getfield 28, 5, 6, 0), (108, .iload_n 2, 0, 0, 0), (109, .iaload, 0, 0, 0), (110, .ifCond .ne 9, 0, 0, 0), (113, .iinc 2 (-1), 0, 0, 0), (116, .goto (-16), 0, 0, 0), (119, .goto (-110), 0, 0, 0), (122, .aload_n 0, 0, 0, 0), (123, .getfield 102, 5, 10, 0), (126, .aload_n 0, 0, 0, 0), (127, .getfield 95, 5, 8, 0), (130, .if_icmp .ne 7, 0, 0, 0), (133, .iconst 1, 0, 0, 0), (134, .goto 4, 0, 0, 0), (137, .iconst 0, 0, 0, 0), (138, .ireturn, 0, 0, 0)]
/-- NeedMachineModel.parts(I)I -/
def zm_c80 : List (Nat × zm_I) := [(0, .iload_n 0, 0, 0, 0), (1, .bipush 48, 0, 0, 0), (3, .bipush 57, 0, 0, 0), (5, .invokestatic 87, 0, 0, 0), (8, .ifCond .ne 31, 0, 0, 0), (11, .iload_n 0, 0, 0, 0), (12, .bipush 97, 0, 0, 0), (14, .bipush 102, 0, 0, 0), (16, .invokestatic 87, 0, 0, 0), (19, .ifCond .ne 20, 0, 0, 0), (22, .iload_n 0, 0, 0, 0), (23, .bipush 65, 0, 0, 0), (25, .bipush 70, 0, 0, 0), (27, .invokestatic 87, 0, 0, 0), (30, .ifCond .ne 9, 0, 0, 0), (33, .iload_n 0, 0, 0, 0), (34, .bipush 110, 0, 0, 0), (36, .if_icmp .ne 5, 0, 0, 0), (39, .iconst 0, 0, 0, 0), (40, .ireturn, 0, 0, 0), (41, .iload_n 0, 0, 0, 0), (42, .bipush 104, 0, 0, 0), (44, .if_icmp .eq 15, 0, 0, 0), (47, .iload_n 0, 0, 0, 0), (48, .bipush 116, 0, 0, 0), (50, .if_icmp .eq 9, 0, 0, 0), (53, .iload_n 0, 0, 0, 0), (54, .bipush 122, 0, 0, 0), (56, .if_icmp .ne 5, 0, 0, 0), (59, .iconst 1, 0, 0, 0), (60, .ireturn, 0, 0, 0), (61, .iload_n 0, 0, 0, 0), (62, .bipush 63, 0, 0, 0), (64, .if_icmp .ne 5, 0, 0, 0), (67, .iconst 3, 0, 0, 0), (68, .ireturn, 0, 0, 0), (69, .iload_n 0, 0, 0, 0), (70, .bipush 46, 0, 0, 0), (72, .if_icmp .eq 51, 0, 0, 0), (75, .iload_n 0, 0, 0, 0), (76, .bipush 43, 0, 0, 0), (78, .if_icmp .eq 45, 0, 0, 0), (81, .iload_n 0, 0, 0, 0), (82, .bipush 45, 0, 0, 0), (84, .if_icmp .eq 39, 0, 0, 0), (87, .iload_n 0, 0, 0, 0), (88, .bipush 42, 0, 0, 0), (90, .if_icmp .eq 33, 0, 0, 0), (93, .iload_n 0, 0, 0, 0), (94, .bipush 47, 0, 0, 0), (96, .if_icmp .eq 27, 0, 0, 0), (99, .iload_n 0, 0, 0, 0), (100, .bipush 37, 0, 0, 0), (102, .if_icmp .eq 21, 0, 0, 0), (105, .iload_n 0, 0, 0, 0), (106, .bipush 60, 0, 0, 0), (108, .if_icmp .eq 15, 0, 0, 0), (111, .iload_n 0, 0, 0, 0), (112, .bipush 61, 0, 0, 0), (114, .if_icmp .eq 9, 0, 0, 0), (117, .iload_n 0, 0, 0, 0), (118, .bipush 58, 0, 0, 0), (120, .if_icmp .ne 7, 0, 0, 0), (123, .iconst 2, 0, 0, 0), (124, .goto 4, 0, 0, 0), (127, .iconst (-1), 0, 0, 0), (128, .ireturn, 0, 0, 0)]
/-- NeedMachineModel.store(I)I -/
def zm_c81 : List (Nat × zm_I) := [(0, .aload_n 0, 0, 0, 0), (1, .getfield 112, 5, 11, 0), (4, .istore_n 2, 0, 0, 0), (5, .iload_n 1, 0, 0, 0), (6, .istore_n 3, 0, 0, 0), (7, .iload_n 3, 0, 0, 0), (8, .aload_n 0, 0, 0, 0), (9, .getfield 95, 5, 8, 0), (12, .if_icmp .ge 34, 0, 0, 0), (15, .aload_n 0, 0, 0, 0), (16, .getfield 13, 5, 1, 0), (19, .aload_n 0, 0, 0, 0), (20, .getfield 112, 5, 11, 0), (23, .aload_n 0, 0, 0, 0), (24, .getfield 7, 5, 0, 0), (27, .iload_n 3, 0, 0, 0), (28, .iaload, 0, 0, 0), (29, .iastore, 0, 0, 0), (30, .aload_n 0, 0, 0, 0), (31, .dup, 0, 0, 0), (32, .getfield 112, 5, 11, 0), (35, .iconst 1, 0, 0, 0), (36, .iadd, 0, 0, 0), (37, .putfield 112, 5, 11, 0), (40, .iinc 3 1, 0, 0, 0), (43, .goto (-36), 0, 0, 0), (46, .iload_n 2, 0, 0, 0), (47, .ireturn, 0, 0, 0)]
/-- NeedMachineModel.ask()I -/
def zm_c82 : List (Nat × zm_I) := [(0, .aload_n 0, 0, 0, 0), (1, .iconst 0, 0, 0, 0), (2, .putfield 102, 5, 10, 0), (5, .aload_n 0, 0, 0, 0), (6, .iconst 0, 0, 0, 0), (7, .invokevirtual 119, 0, 0, 0), (10, .istore_n 1, 0, 0, 0), (11, .iload_n 1, 0, 0, 0), (12, .ifCond .ne 11, 0, 0, 0), (15, .aload_n 0, 0, 0, 0), (16, .aload_n 0, 0, 0, 0), (17, .getfield 102, 5, 10, 0), (20, .putfield 35, 5, 9, 0), (23, .aload_n 0, 0, 0, 0), (24, .iload_n 1, 0, 0, 0), (25, .invokevirtual 91, 0, 0, 0), (28, .ifCond .eq 10, 0, 0, 0), (31, .aload_n 0, 0, 0, 0), (32, .iconst 0, 0, 0, 0), (33, .putfield 95, 5, 8, 0), (36, .iconst 0, 0, 0, 0), (37, .ireturn, 0, 0, 0), (38, .aload_n 0, 0, 0, 0), (39, .invokevirtual 229, 0, 0, 0), (42, .aload_n 0, 0, 0, 0), (43, .iconst 0, 0, 0, 0), (44, .invokevirtual 123, 0, 0, 0), (47, .istore_n 2, 0, 0, 0), (48, .aload_n 0, 0, 0, 0), (49, .iconst 0, 0, 0, 0), (50, .putfield 95, 5, 8, 0), (53, .aload_n 0, 0, 0, 0), (54, .iconst 0, 0, 0, 0), (55, .putfield 175, 5, 33, 0), (58, .aload_n 0, 0, 0, 0), (59, .iconst 0, 0, 0, 0), (60, .putfield 141, 5, 32, 0), (63, .aload_n 0, 0, 0, 0), (64, .iload_n 2, 0, 0, 0), (65, .iconst 0, 0, 0, 0), (66, .invokevirtual 232, 0, 0, 0), (69, .aload_n 0, 0, 0, 0), (70, .invokevirtual 235, 0, 0, 0), (73, .ireturn, 0, 0, 0)]
/-- NeedMachineModel.sweep()V -/
def zm_c83 : List (Nat × zm_I) := [(0, .iconst 0, 0, 0, 0), (1, .istore_n 1, 0, 0, 0), (2, .iconst 0, 0, 0, 0), (3, .istore_n 2, 0, 0, 0), (4, .iload_n 2, 0, 0, 0), (5, .bipush 6, 0, 0, 0), (7, .if_icmp .ge 79, 0, 0, 0), (10, .aload_n 0, 0, 0, 0), (11, .getfield 31, 5, 7, 0), (14, .iload_n 2, 0, 0, 0), (15, .baload, 0, 0, 0), (16, .ifCond .ne 6, 0, 0, 0), (19, .goto 61, 0, 0, 0), (22, .aload_n 0, 0, 0, 0), (23, .aload_n 0, 0, 0, 0), (24, .getfield 19, 5, 3, 0), (27, .iload_n 2, 0, 0, 0), (28, .iaload, 0, 0, 0), (29, .invokevirtual 126, 0, 0, 0), (32, .istore_n 3, 0, 0, 0), (33, .iload_n 1, 0, 0, 0), (34, .istore 4, 0, 0, 0), (36, .aload_n 0, 0, 0, 0), (37, .getfield 19, 5, 3, 0), (40, .iload_n 2, 0, 0, 0), (41, .iaload, 0, 0, 0), (42, .istore 5, 0, 0, 0), (44, .iload 5, 0, 0, 0), (46, .iload_n 3, 0, 0, 0), (47, .if_icmp .ge 25, 0, 0, 0), (50, .aload_n 0, 0, 0, 0), (51, .getfield 16, 5, 2, 0), (54, .iload_n 1, 0, 0, 0), (55, .aload_n 0, 0, 0, 0), (56, .getfield 13, 5, 1, 0), (59, .iload 5, 0, 0, 0), (61, .iaload, 0, 0, 0), (62, .iastore, 0, 0, 0), (63, .iinc 1 1, 0, 0, 0), (66, .iinc 5 1, 0, 0, 0), (69, .goto (-25), 0, 0, 0), (72, .aload_n 0, 0, 0, 0), (73, .getfield 19, 5, 3, 0), (76, .iload_n 2, 0, 0, 0), (77, .iload 4, 0, 0, 0), (79, .iastore, 0, 0, 0), (80, .iinc 2 1, 0, 0, 0), (83, .goto (-79), 0, 0, 0), (86, .iconst 0, 0, 0, 0), (87, .istore_n 2, 0, 0, 0), (88, .iload_n 2, 0, 0, 0), (89, .iload_n 1, 0, 0, 0), (90, .if_icmp .ge 21, 0, 0, 0), (93, .aload_n 0, 0, 0, 0), (94, .getfield 13, 5, 1, 0), (97, .iload_n 2, 0, 0, 0), (98, .aload_n 0, 0, 0, 0), (99, .getfield 16, 5, 2, 0), (102, .iload_n 2, 0, 0, 0), (103, .iaload, 0, 0, 0), (104, .iastore, 0, 0, 0), (105, .iinc 2 1, 0, 0, 0), (108, .goto (-20), 0, 0, 0), (111, .aload_n 0, 0, 0, 0), (112, .iload_n 1, 0, 0, 0), (113, .putfield 112, 5, 11, 0), (116, .aload_n 0, 0, 0, 0), (117, .aload_n 0, 0, 0, 0), (118, .aload_n 0, 0, 0, 0), (119, .iconst 0, 0, 0, 0), (120, .dup_x1, 0, 0, 0), (121, .putfield 129, 5, 25, 0), (124, .dup_x1, 0, 0, 0), (125, .putfield 132, 5, 24, 0), (128, .putfield 135, 5, 23, 0), (131, .return_, 0, 0, 0)]
/-- NeedMachineModel.skip(I)I -/
def zm_c84 : List (Nat × zm_I) := [(0, .iload_n 1, 0, 0, 0), (1, .istore_n 2, 0, 0, 0), (2, .iconst 1, 0, 0, 0), (3, .istore_n 3, 0, 0, 0), (4, .iload_n 3, 0, 0, 0), (5, .ifCond .le 23, 0, 0, 0), (8, .iload_n 3, 0, 0, 0), (9, .aload_n 0, 0, 0, 0), (10, .getfield 13, 5, 1, 0), (13, .iload_n 2, 0, 0, 0), (14, .iaload, 0, 0, 0), (15, .invokestatic 109, 0, 0, 0), (18, .iconst 1, 0, 0, 0), (19, .isub, 0, 0, 0), (20, .iadd, 0, 0, 0), (21, .istore_n 3, 0, 0, 0), (22, .iinc 2 1, 0, 0, 0), (25, .goto (-21), 0, 0, 0), (28, .iload_n 2, 0, 0, 0), (29, .ireturn, 0, 0, 0)]
/-- NeedMachineModel.workOut(II)V -/
def zm_c85 : List (Nat × zm_I) := [(0, .aload_n 0, 0, 0, 0), (1, .iconst 0, 0, 0, 0), (2, .putfield 138, 5, 31, 0), (5, .aload_n 0, 0, 0, 0), (6, .iload_n 1, 0, 0, 0), (7, .iload_n 2, 0, 0, 0), (8, .invokevirtual 171, 0, 0, 0), (11, .aload_n 0, 0, 0, 0), (12, .getfield 138, 5, 31, 0), (15, .ifCond .le 17, 0, 0, 0), (18, .aload_n 0, 0, 0, 0), (19, .getfield 84, 5, 12, 0), (22, .ifCond .ne 10, 0, 0, 0), (25, .aload_n 0, 0, 0, 0), (26, .invokevirtual 213, 0, 0, 0), (29, .goto (-18), 0, 0, 0), (32, .return_, 0, 0, 0)]
/-- NeedMachineModel.push(II)V -/
def zm_c86 : List (Nat × zm_I) := [(0, .aload_n 0, 0, 0, 0), (1, .getfield 138, 5, 31, 0), (4, .bipush 60, 0, 0, 0), (6, .if_icmp .ne 9, 0, 0, 0), (9, .aload_n 0, 0, 0, 0), (10, .iconst 4, 0, 0, 0), (11, .putfield 84, 5, 12, 0), (14, .return_, 0, 0, 0), (15, .aload_n 0, 0, 0, 0), (16, .dup, 0, 0, 0), (17, .getfield 138, 5, 31, 0), (20, .iconst 1, 0, 0, 0), (21, .iadd, 0, 0, 0), (22, .putfield 138, 5, 31, 0), (25, .aload_n 0, 0, 0, 0), (26, .getfield 138, 5, 31, 0), (29, .aload_n 0, 0, 0, 0), (30, .getfield 141, 5, 32, 0), (33, .if_icmp .le 11, 0, 0, 0), (36, .aload_n 0, 0, 0, 0), (37, .aload_n 0, 0, 0, 0), (38, .getfield 138, 5, 31, 0), (41, .putfield 141, 5, 32, 0), (44, .aload_n 0, 0, 0, 0), (45, .getfield 69, 5, 26, 0), (48, .aload_n 0, 0, 0, 0), (49, .getfield 138, 5, 31, 0), (52, .iload_n 1, 0, 0, 0), (53, .iastore, 0, 0, 0), (54, .aload_n 0, 0, 0, 0), (55, .getfield 72, 5, 27, 0), (58, .aload_n 0, 0, 0, 0), (59, .getfield 138, 5, 31, 0), (62, .iload_n 2, 0, 0, 0), (63, .iastore, 0, 0, 0), (64, .aload_n 0, 0, 0, 0), (65, .getfield 75, 5, 28, 0), (68, .aload_n 0, 0, 0, 0), (69, .getfield 138, 5, 31, 0), (72, .iconst 0, 0, 0, 0), (73, .iastore, 0, 0, 0), (74, .aload_n 0, 0, 0, 0), (75, .getfield 81, 5, 30, 0), (78, .aload_n 0, 0, 0, 0), (79, .getfield 138, 5, 31, 0), (82, .iconst (-1), 0, 0, 0), (83, .iastore, 0, 0, 0), (84, .return_, 0, 0, 0)]
/-- NeedMachineModel.step()V -/
def zm_c87 : List (Nat × zm_I) := [(0, .aload_n 0, 0, 0, 0), (1, .getfield 138, 5, 31, 0), (4, .istore_n 1, 0, 0, 0), (5, .aload_n 0, 0, 0, 0), (6, .getfield 69, 5, 26, 0), (9, .iload_n 1, 0, 0, 0), (10, .iaload, 0, 0, 0), (11, .istore_n 2, 0, 0, 0), (12, .aload_n 0, 0, 0, 0), (13, .getfield 13, 5, 1, 0), (16, .iload_n 2, 0, 0, 0), (17, .iaload, 0, 0, 0), (18, .istore_n 3, 0, 0, 0), (19, .aload_n 0, 0, 0, 0), (20, .getfield 75, 5, 28, 0), (23, .iload_n 1, 0, 0, 0), (24, .iaload, 0, 0, 0), (25, .iconst 3, 0, 0, 0), (26, .if_icmp .ne 10, 0, 0, 0), (29, .aload_n 0, 0, 0, 0), (30, .invokevirtual 204, 0, 0, 0), (33, .goto 203, 0, 0, 0), (36, .aload_n 0, 0, 0, 0), (37, .getfield 75, 5, 28, 0), (40, .iload_n 1, 0, 0, 0), (41, .iaload, 0, 0, 0), (42, .iconst 4, 0, 0, 0), (43, .if_icmp .ne 16, 0, 0, 0), (46, .aload_n 0, 0, 0, 0), (47, .dup, 0, 0, 0), (48, .getfield 138, 5, 31, 0), (51, .iconst 1, 0, 0, 0), (52, .isub, 0, 0, 0), (53, .putfield 138, 5, 31, 0), (56, .goto 180, 0, 0, 0), (59, .aload_n 0, 0, 0, 0), (60, .getfield 75, 5, 28, 0), (63, .iload_n 1, 0, 0, 0), (64, .iaload, 0, 0, 0), (65, .ifCond .le 12, 0, 0, 0), (68, .aload_n 0, 0, 0, 0), (69, .iload_n 1, 0, 0, 0), (70, .iload_n 3, 0, 0, 0), (71, .invokevirtual 207, 0, 0, 0), (74, .goto 162, 0, 0, 0), (77, .iload_n 3, 0, 0, 0), (78, .bipush 48, 0, 0, 0), (80, .bipush 57, 0, 0, 0), (82, .invokestatic 87, 0, 0, 0), (85, .ifCond .eq 16, 0, 0, 0), (88, .aload_n 0, 0, 0, 0), (89, .iconst 0, 0, 0, 0), (90, .iload_n 3, 0, 0, 0), (91, .bipush 48, 0, 0, 0), (93, .isub, 0, 0, 0), (94, .iconst 0, 0, 0, 0), (95, .invokevirtual 157, 0, 0, 0), (98, .goto 138, 0, 0, 0), (101, .iload_n 3, 0, 0, 0), (102, .bipush 110, 0, 0, 0), (104, .if_icmp .ne 13, 0, 0, 0), (107, .aload_n 0, 0, 0, 0), (108, .iconst 1, 0, 0, 0), (109, .iconst 0, 0, 0, 0), (110, .iconst 0, 0, 0, 0), (111, .invokevirtual 157, 0, 0, 0), (114, .goto 122, 0, 0, 0), (117, .iload_n 3, 0, 0, 0), (118, .bipush 97, 0, 0, 0), (120, .bipush 102, 0, 0, 0), (122, .invokestatic 87, 0, 0, 0), (125, .ifCond .eq 21, 0, 0, 0), (128, .aload_n 0, 0, 0, 0), (129, .aload_n 0, 0, 0, 0), (130, .iload_n 3, 0, 0, 0), (131, .aload_n 0, 0, 0, 0), (132, .getfield 72, 5, 27, 0), (135, .iload_n 1, 0, 0, 0), (136, .iaload, 0, 0, 0), (137, .invokevirtual 153, 0, 0, 0), (140, .invokevirtual 193, 0, 0, 0), (143, .goto 93, 0, 0, 0), (146, .iload_n 3, 0, 0, 0), (147, .bipush 65, 0, 0, 0), (149, .bipush 70, 0, 0, 0), (151, .invokestatic 87, 0, 0, 0), (154, .ifCond .eq 14, 0, 0, 0), (157, .aload_n 0, 0, 0, 0), (158, .iload_n 3, 0, 0, 0), (159, .bipush 65, 0, 0, 0), (161, .isub, 0, 0, 0), (162, .invokevirtual 210, 0, 0, 0), (165, .goto 71, 0, 0, 0), (168, .iload_n 3, 0, 0, 0), (169, .bipush 58, 0, 0, 0), (171, .if_icmp .ne 45, 0, 0, 0), (174, .aload_n 0, 0, 0, 0), (175, .iload_n 2, 0, 0, 0), (176, .iconst 1, 0, 0, 0), (177, .iadd, 0, 0, 0), (178, .aload_n 0, 0, 0, 0), (179, .getfield 72, 5, 27, 0), (182, .iload_n 1, 0, 0, 0), (183, .iaload, 0, 0, 0), (184, .invokevirtual 181, 0, 0, 0), (187, .istore 4, 0, 0, 0), (189, .aload_n 0, 0, 0, 0), (190, .iconst 2, 0, 0, 0), (191, .iload 4, 0, 0, 0), (193, .aload_n 0, 0, 0, 0), (194, .aload_n 0, 0, 0, 0), (195, .iload_n 2, 0, 0, 0), (196, .iconst 1, 0, 0, 0), (197, .iadd, 0, 0, 0), (198, .invokevirtual 126, 0, 0, 0), (201, .aload_n 0, 0, 0, 0), (202, .getfield 72, 5, 27, 0), (205, .iload_n 1, 0, 0, 0), (206, .iaload, 0, 0, 0), (207, .invokevirtual 181, 0, 0, 0), (210, .invokevirtual 157, 0, 0, 0), (213, .goto 23, 0, 0, 0), (216, .aload_n 0, 0, 0, 0), (217, .getfield 75, 5, 28, 0), (220, .iload_n 1, 0, 0, 0), (221, .iconst 1, 0, 0, 0), (222, .iastore, 0, 0, 0), (223, .aload_n 0, 0, 0, 0), (224, .iload_n 2, 0, 0, 0), (225, .iconst 1, 0, 0, 0), (226, .iadd, 0, 0, 0), (227, .aload_n 0, 0, 0, 0), (228, .getfield 72, 5, 27, 0), (231, .iload_n 1, 0, 0, 0), (232, .iaload, 0, 0, 0), (233, .invokevirtual 171, 0, 0, 0), (236, .return_, 0, 0, 0)]
/-- NeedMachineModel.keepValue()V -/
def zm_c88 : List (Nat × zm_I) := [(0, .aload_n 0, 0, 0, 0), (1, .getfield 81, 5, 30, 0), (4, .aload_n 0, 0, 0, 0), (5, .getfield 138, 5, 31, 0), (8, .iaload, 0, 0, 0), (9, .istore_n 1, 0, 0, 0), (10, .aload_n 0, 0, 0, 0), (11, .getfield 45, 5, 15, 0), (14, .iload_n 1, 0, 0, 0), (15, .iconst 2, 0, 0, 0), (16, .iastore, 0, 0, 0), (17, .aload_n 0, 0, 0, 0), (18, .getfield 48, 5, 16, 0), (21, .iload_n 1, 0, 0, 0), (22, .aload_n 0, 0, 0, 0), (23, .getfield 144, 5, 37, 0), (26, .iastore, 0, 0, 0), (27, .aload_n 0, 0, 0, 0), (28, .getfield 51, 5, 17, 0), (31, .iload_n 1, 0, 0, 0), (32, .aload_n 0, 0, 0, 0), (33, .getfield 147, 5, 38, 0), (36, .iastore, 0, 0, 0), (37, .aload_n 0, 0, 0, 0), (38, .getfield 54, 5, 18, 0), (41, .iload_n 1, 0, 0, 0), (42, .aload_n 0, 0, 0, 0), (43, .getfield 150, 5, 39, 0), (46, .iastore, 0, 0, 0), (47, .aload_n 0, 0, 0, 0), (48, .iload_n 1, 0, 0, 0), (49, .invokevirtual 164, 0, 0, 0), (52, .return_, 0, 0, 0)]
/-- NeedMachineModel.giveClosure(I)V -/
def zm_c89 : List (Nat × zm_I) := [(0, .aload_n 0, 0, 0, 0), (1, .aload_n 0, 0, 0, 0), (2, .getfield 48, 5, 16, 0), (5, .iload_n 1, 0, 0, 0), (6, .iaload, 0, 0, 0), (7, .aload_n 0, 0, 0, 0), (8, .getfield 51, 5, 17, 0), (11, .iload_n 1, 0, 0, 0), (12, .iaload, 0, 0, 0), (13, .aload_n 0, 0, 0, 0), (14, .getfield 54, 5, 18, 0), (17, .iload_n 1, 0, 0, 0), (18, .iaload, 0, 0, 0), (19, .invokevirtual 157, 0, 0, 0), (22, .return_, 0, 0, 0)]
/-- NeedMachineModel.give(III)V -/
def zm_c90 : List (Nat × zm_I) := [(0, .aload_n 0, 0, 0, 0), (1, .iload_n 1, 0, 0, 0), (2, .putfield 144, 5, 37, 0), (5, .aload_n 0, 0, 0, 0), (6, .iload_n 2, 0, 0, 0), (7, .putfield 147, 5, 38, 0), (10, .aload_n 0, 0, 0, 0), (11, .iload_n 3, 0, 0, 0), (12, .putfield 150, 5, 39, 0), (15, .aload_n 0, 0, 0, 0), (16, .dup, 0, 0, 0), (17, .getfield 138, 5, 31, 0), (20, .iconst 1, 0, 0, 0), (21, .isub, 0, 0, 0), (22, .putfield 138, 5, 31, 0), (25, .return_, 0, 0, 0)]
/-- NeedMachineModel.goOn(II)V -/
def zm_c91 : List (Nat × zm_I) := [(0, .aload_n 0, 0, 0, 0), (1, .getfield 69, 5, 26, 0), (4, .iload_n 1, 0, 0, 0), (5, .iaload, 0, 0, 0), (6, .istore_n 3, 0, 0, 0), (7, .iload_n 2, 0, 0, 0), (8, .bipush 46, 0, 0, 0), (10, .if_icmp .ne 11, 0, 0, 0), (13, .aload_n 0, 0, 0, 0), (14, .iload_n 1, 0, 0, 0), (15, .invokevirtual 190, 0, 0, 0), (18, .goto 259, 0, 0, 0), (21, .iload_n 2, 0, 0, 0), (22, .bipush 122, 0, 0, 0), (24, .if_icmp .ne 49, 0, 0, 0), (27, .aload_n 0, 0, 0, 0), (28, .getfield 144, 5, 37, 0), (31, .iconst 1, 0, 0, 0), (32, .if_icmp .eq 19, 0, 0, 0), (35, .aload_n 0, 0, 0, 0), (36, .getfield 144, 5, 37, 0), (39, .iconst 2, 0, 0, 0), (40, .if_icmp .eq 11, 0, 0, 0), (43, .aload_n 0, 0, 0, 0), (44, .iconst 5, 0, 0, 0), (45, .putfield 84, 5, 12, 0), (48, .goto 229, 0, 0, 0), (51, .aload_n 0, 0, 0, 0), (52, .iconst 0, 0, 0, 0), (53, .aload_n 0, 0, 0, 0), (54, .getfield 144, 5, 37, 0), (57, .iconst 1, 0, 0, 0), (58, .if_icmp .ne 7, 0, 0, 0), (61, .iconst 1, 0, 0, 0), (62, .goto 4, 0, 0, 0), (65, .iconst 0, 0, 0, 0), (66, .iconst 0, 0, 0, 0), (67, .invokevirtual 157, 0, 0, 0), (70, .goto 207, 0, 0, 0), (73, .iload_n 2, 0, 0, 0), (74, .bipush 104, 0, 0, 0), (76, .if_icmp .eq 9, 0, 0, 0), (79, .iload_n 2, 0, 0, 0), (80, .bipush 116, 0, 0, 0), (82, .if_icmp .ne 55, 0, 0, 0), (85, .aload_n 0, 0, 0, 0), (86, .getfield 144, 5, 37, 0), (89, .iconst 2, 0, 0, 0), (90, .if_icmp .eq 23, 0, 0, 0), (93, .aload_n 0, 0, 0, 0), (94, .aload_n 0, 0, 0, 0), (95, .getfield 144, 5, 37, 0), (98, .iconst 1, 0, 0, 0), (99, .if_icmp .ne 7, 0, 0, 0), (102, .iconst 2, 0, 0, 0), (103, .goto 4, 0, 0, 0), (106, .iconst 5, 0, 0, 0), (107, .putfield 84, 5, 12, 0), (110, .goto 167, 0, 0, 0), (113, .aload_n 0, 0, 0, 0), (114, .iload_n 2, 0, 0, 0), (115, .bipush 104, 0, 0, 0), (117, .if_icmp .ne 10, 0, 0, 0), (120, .aload_n 0, 0, 0, 0), (121, .getfield 147, 5, 38, 0), (124, .goto 7, 0, 0, 0), (127, .aload_n 0, 0, 0, 0), (128, .getfield 150, 5, 39, 0), (131, .invokevirtual 193, 0, 0, 0), (134, .goto 143, 0, 0, 0), (137, .aload_n 0, 0, 0, 0), (138, .invokevirtual 196, 0, 0, 0), (141, .ifCond .ne 4, 0, 0, 0), (144, .return_, 0, 0, 0), (145, .iload_n 2, 0, 0, 0), (146, .bipush 63, 0, 0, 0), (148, .if_icmp .ne 50, 0, 0, 0), (151, .aload_n 0, 0, 0, 0), (152, .iload_n 3, 0, 0, 0), (153, .iconst 1, 0, 0, 0), (154, .iadd, 0, 0, 0), (155, .invokevirtual 126, 0, 0, 0), (158, .istore 4, 0, 0, 0), (160, .aload_n 0, 0, 0, 0), (161, .getfield 75, 5, 28, 0), (164, .iload_n 1, 0, 0, 0), (165, .iconst 4, 0, 0, 0), (166, .iastore, 0, 0, 0), (167, .aload_n 0, 0, 0, 0), (168, .aload_n 0, 0, 0, 0), (169, .getfield 147, 5, 38, 0), (172, .ifCond .eq 8, 0, 0, 0), (175, .iload 4, 0, 0, 0), (177, .goto 9, 0, 0, 0), (180, .aload_n 0, 0, 0, 0), (181, .iload 4, 0, 0, 0), (183, .invokevirtual 126, 0, 0, 0), (186, .aload_n 0, 0, 0, 0), (187, .getfield 72, 5, 27, 0), (190, .iload_n 1, 0, 0, 0), (191, .iaload, 0, 0, 0), (192, .invokevirtual 171, 0, 0, 0), (195, .goto 82, 0, 0, 0), (198, .aload_n 0, 0, 0, 0), (199, .getfield 75, 5, 28, 0), (202, .iload_n 1, 0, 0, 0), (203, .iaload, 0, 0, 0), (204, .iconst 1, 0, 0, 0), (205, .if_icmp .ne 40, 0, 0, 0), (208, .aload_n 0, 0, 0, 0), (209, .getfield 78, 5, 29, 0), (212, .iload_n 1, 0, 0, 0), (213, .aload_n 0, 0, 0, 0), (214, .getfield 147, 5, 38, 0), (217, .iastore, 0, 0, 0), (218, .aload_n 0, 0, 0, 0), (219, .getfield 75, 5, 28, 0), (222, .iload_n 1, 0, 0, 0), (223, .iconst 2, 0, 0, 0), (224, .iastore, 0, 0, 0), (225, .aload_n 0, 0, 0, 0), (226, .aload_n 0, 0, 0, 0), (227, .iload_n 3, 0, 0, 0), (228, .iconst 1, 0, 0, 0), (229, .iadd, 0, 0, 0), (230, .invokevirtual 126, 0, 0, 0), (233, .aload_n 0, 0, 0, 0), (234, .getfield 72, 5, 27, 0), (237, .iload_n 1, 0, 0, 0), (238, .iaload, 0, 0, 0), (239, .invokevirtual 171, 0, 0, 0), (242, .goto 35, 0, 0, 0), (245, .aload_n 0, 0, 0, 0), (246, .iload_n 2, 0, 0, 0), (247, .aload_n 0, 0, 0, 0), (248, .getfield 78, 5, 29, 0), (251, .iload_n 1, 0, 0, 0), (252, .iaload, 0, 0, 0), (253, .aload_n 0, 0, 0, 0), (254, .getfield 147, 5, 38, 0), (257, .invokevirtual 200, 0, 0, 0), (260, .istore 4, 0, 0, 0), (262, .aload_n 0, 0, 0, 0), (263, .getfield 84, 5, 12, 0), (266, .ifCond .ne 11, 0, 0, 0), (269, .aload_n 0, 0, 0, 0), (270, .iconst 0, 0, 0, 0), (271, .iload 4, 0, 0, 0), (273, .iconst 0, 0, 0, 0), (274, .invokevirtual 157, 0, 0, 0), (277, .return_, 0, 0, 0)]
/-- NeedMachineModel.apply(I)V -/
def zm_c92 : List (Nat × zm_I) := [(0, .aload_n 0, 0, 0, 0), (1, .getfield 144, 5, 37, 0), (4, .iconst 3, 0, 0, 0), (5, .if_icmp .eq 9, 0, 0, 0), (8, .aload_n 0, 0, 0, 0), (9, .iconst 5, 0, 0, 0), (10, .putfield 84, 5, 12, 0), (13, .return_, 0, 0, 0), (14, .aload_n 0, 0, 0, 0), (15, .getfield 147, 5, 38, 0), (18, .istore_n 2, 0, 0, 0), (19, .aload_n 0, 0, 0, 0), (20, .getfield 69, 5, 26, 0), (23, .iload_n 1, 0, 0, 0), (24, .iaload, 0, 0, 0), (25, .istore_n 3, 0, 0, 0), (26, .aload_n 0, 0, 0, 0), (27, .getfield 63, 5, 21, 0), (30, .aload_n 0, 0, 0, 0), (31, .getfield 129, 5, 25, 0), (34, .aload_n 0, 0, 0, 0), (35, .aload_n 0, 0, 0, 0), (36, .iload_n 3, 0, 0, 0), (37, .iconst 1, 0, 0, 0), (38, .iadd, 0, 0, 0), (39, .invokevirtual 126, 0, 0, 0), (42, .aload_n 0, 0, 0, 0), (43, .getfield 72, 5, 27, 0), (46, .iload_n 1, 0, 0, 0), (47, .iaload, 0, 0, 0), (48, .invokevirtual 181, 0, 0, 0), (51, .iastore, 0, 0, 0), (52, .aload_n 0, 0, 0, 0), (53, .getfield 66, 5, 22, 0), (56, .aload_n 0, 0, 0, 0), (57, .getfield 129, 5, 25, 0), (60, .aload_n 0, 0, 0, 0), (61, .getfield 150, 5, 39, 0), (64, .iastore, 0, 0, 0), (65, .aload_n 0, 0, 0, 0), (66, .dup, 0, 0, 0), (67, .getfield 129, 5, 25, 0), (70, .iconst 1, 0, 0, 0), (71, .iadd, 0, 0, 0), (72, .putfield 129, 5, 25, 0), (75, .aload_n 0, 0, 0, 0), (76, .getfield 129, 5, 25, 0), (79, .iconst 1, 0, 0, 0), (80, .isub, 0, 0, 0), (81, .istore 4, 0, 0, 0), (83, .aload_n 0, 0, 0, 0), (84, .iload 4, 0, 0, 0), (86, .invokevirtual 184, 0, 0, 0), (89, .istore 5, 0, 0, 0), (91, .aload_n 0, 0, 0, 0), (92, .getfield 31, 5, 7, 0), (95, .iload_n 2, 0, 0, 0), (96, .baload, 0, 0, 0), (97, .ifCond .ne 11, 0, 0, 0), (100, .aload_n 0, 0, 0, 0), (101, .iconst 2, 0, 0, 0), (102, .putfield 84, 5, 12, 0), (105, .goto 34, 0, 0, 0), (108, .iload 5, 0, 0, 0), (110, .aload_n 0, 0, 0, 0), (111, .getfield 25, 5, 5, 0), (114, .iload_n 2, 0, 0, 0), (115, .iaload, 0, 0, 0), (116, .if_icmp .ge 14, 0, 0, 0), (119, .aload_n 0, 0, 0, 0), (120, .iconst 3, 0, 0, 0), (121, .iload_n 2, 0, 0, 0), (122, .iload 4, 0, 0, 0), (124, .invokevirtual 157, 0, 0, 0), (127, .goto 12, 0, 0, 0), (130, .aload_n 0, 0, 0, 0), (131, .iload_n 2, 0, 0, 0), (132, .iload 4, 0, 0, 0), (134, .iload 5, 0, 0, 0), (136, .invokevirtual 187, 0, 0, 0), (139, .return_, 0, 0, 0)]
/-- NeedMachineModel.closureOf(II)I -/
def zm_c93 : List (Nat × zm_I) := [(0, .aload_n 0, 0, 0, 0), (1, .getfield 13, 5, 1, 0), (4, .iload_n 1, 0, 0, 0), (5, .iaload, 0, 0, 0), (6, .bipush 97, 0, 0, 0), (8, .bipush 102, 0, 0, 0), (10, .invokestatic 87, 0, 0, 0), (13, .ifCond .eq 15, 0, 0, 0), (16, .aload_n 0, 0, 0, 0), (17, .aload_n 0, 0, 0, 0), (18, .getfield 13, 5, 1, 0), (21, .iload_n 1, 0, 0, 0), (22, .iaload, 0, 0, 0), (23, .iload_n 2, 0, 0, 0), (24, .invokevirtual 153, 0, 0, 0), (27, .ireturn, 0, 0, 0), (28, .aload_n 0, 0, 0, 0), (29, .getfield 39, 5, 13, 0), (32, .aload_n 0, 0, 0, 0), (33, .getfield 135, 5, 23, 0), (36, .iload_n 1, 0, 0, 0), (37, .iastore, 0, 0, 0), (38, .aload_n 0, 0, 0, 0), (39, .getfield 42, 5, 14, 0), (42, .aload_n 0, 0, 0, 0), (43, .getfield 135, 5, 23, 0), (46, .iload_n 2, 0, 0, 0), (47, .iastore, 0, 0, 0), (48, .aload_n 0, 0, 0, 0), (49, .getfield 45, 5, 15, 0), (52, .aload_n 0, 0, 0, 0), (53, .getfield 135, 5, 23, 0), (56, .iconst 0, 0, 0, 0), (57, .iastore, 0, 0, 0), (58, .aload_n 0, 0, 0, 0), (59, .dup, 0, 0, 0), (60, .getfield 135, 5, 23, 0), (63, .iconst 1, 0, 0, 0), (64, .iadd, 0, 0, 0), (65, .putfield 135, 5, 23, 0), (68, .aload_n 0, 0, 0, 0), (69, .getfield 135, 5, 23, 0), (72, .iconst 1, 0, 0, 0), (73, .isub, 0, 0, 0), (74, .ireturn, 0, 0, 0)]
/-- NeedMachineModel.parameterOf(II)I -/
def zm_c94 : List (Nat × zm_I) := [(0, .iload_n 2, 0, 0, 0), (1, .iconst 4, 0, 0, 0), (2, .imul, 0, 0, 0), (3, .istore_n 3, 0, 0, 0), (4, .aload_n 0, 0, 0, 0), (5, .getfield 57, 5, 19, 0), (8, .iload_n 3, 0, 0, 0), (9, .iaload, 0, 0, 0), (10, .iload_n 1, 0, 0, 0), (11, .if_icmp .eq 9, 0, 0, 0), (14, .iinc 3 1, 0, 0, 0), (17, .goto (-13), 0, 0, 0), (20, .aload_n 0, 0, 0, 0), (21, .getfield 60, 5, 20, 0), (24, .iload_n 3, 0, 0, 0), (25, .iaload, 0, 0, 0), (26, .ireturn, 0, 0, 0)]
/-- NeedMachineModel.countOf(I)I -/
def zm_c95 : List (Nat × zm_I) := [(0, .iconst 0, 0, 0, 0), (1, .istore_n 2, 0, 0, 0), (2, .iload_n 1, 0, 0, 0), (3, .istore_n 3, 0, 0, 0), (4, .iload_n 3, 0, 0, 0), (5, .ifCond .lt 16, 0, 0, 0), (8, .iinc 2 1, 0, 0, 0), (11, .aload_n 0, 0, 0, 0), (12, .getfield 66, 5, 22, 0), (15, .iload_n 3, 0, 0, 0), (16, .iaload, 0, 0, 0), (17, .istore_n 3, 0, 0, 0), (18, .goto (-14), 0, 0, 0), (21, .iload_n 2, 0, 0, 0), (22, .ireturn, 0, 0, 0)]
/-- NeedMachineModel.call(III)V -/
def zm_c96 : List (Nat × zm_I) := [(0, .aload_n 0, 0, 0, 0), (1, .getfield 175, 5, 33, 0), (4, .sipush 400, 0, 0, 0), (7, .if_icmp .ne 9, 0, 0, 0), (10, .aload_n 0, 0, 0, 0), (11, .iconst 4, 0, 0, 0), (12, .putfield 84, 5, 12, 0), (15, .return_, 0, 0, 0), (16, .aload_n 0, 0, 0, 0), (17, .dup, 0, 0, 0), (18, .getfield 175, 5, 33, 0), (21, .iconst 1, 0, 0, 0), (22, .iadd, 0, 0, 0), (23, .putfield 175, 5, 33, 0), (26, .aload_n 0, 0, 0, 0), (27, .dup, 0, 0, 0), (28, .getfield 178, 5, 34, 0), (31, .iconst 1, 0, 0, 0), (32, .iadd, 0, 0, 0), (33, .putfield 178, 5, 34, 0), (36, .iload_n 2, 0, 0, 0), (37, .istore 4, 0, 0, 0), (39, .aload_n 0, 0, 0, 0), (40, .getfield 132, 5, 24, 0), (43, .istore 5, 0, 0, 0), (45, .aload_n 0, 0, 0, 0), (46, .dup, 0, 0, 0), (47, .getfield 132, 5, 24, 0), (50, .iconst 1, 0, 0, 0), (51, .iadd, 0, 0, 0), (52, .putfield 132, 5, 24, 0), (55, .iconst 0, 0, 0, 0), (56, .istore 6, 0, 0, 0), (58, .iload 6, 0, 0, 0), (60, .iconst 4, 0, 0, 0), (61, .if_icmp .ge 22, 0, 0, 0), (64, .aload_n 0, 0, 0, 0), (65, .getfield 57, 5, 19, 0), (68, .iload 5, 0, 0, 0), (70, .iconst 4, 0, 0, 0), (71, .imul, 0, 0, 0), (72, .iload 6, 0, 0, 0), (74, .iadd, 0, 0, 0), (75, .iconst 0, 0, 0, 0), (76, .iastore, 0, 0, 0), (77, .iinc 6 1, 0, 0, 0), (80, .goto (-22), 0, 0, 0), (83, .iload_n 3, 0, 0, 0), (84, .iconst 1, 0, 0, 0), (85, .isub, 0, 0, 0), (86, .istore 6, 0, 0, 0), (88, .iload 6, 0, 0, 0), (90, .ifCond .lt 71, 0, 0, 0), (93, .iload 6, 0, 0, 0), (95, .aload_n 0, 0, 0, 0), (96, .getfield 25, 5, 5, 0), (99, .iload_n 1, 0, 0, 0), (100, .iaload, 0, 0, 0), (101, .if_icmp .ge 45, 0, 0, 0), (104, .aload_n 0, 0, 0, 0), (105, .getfield 57, 5, 19, 0), (108, .iload 5, 0, 0, 0), (110, .iconst 4, 0, 0, 0), (111, .imul, 0, 0, 0), (112, .iload 6, 0, 0, 0), (114, .iadd, 0, 0, 0), (115, .aload_n 0, 0, 0, 0), (116, .getfield 22, 5, 4, 0), (119, .iload_n 1, 0, 0, 0), (120, .iconst 4, 0, 0, 0), (121, .imul, 0, 0, 0), (122, .iload 6, 0, 0, 0), (124, .iadd, 0, 0, 0), (125, .iaload, 0, 0, 0), (126, .iastore, 0, 0, 0), (127, .aload_n 0, 0, 0, 0), (128, .getfield 60, 5, 20, 0), (131, .iload 5, 0, 0, 0), (133, .iconst 4, 0, 0, 0), (134, .imul, 0, 0, 0), (135, .iload 6, 0, 0, 0), (137, .iadd, 0, 0, 0), (138, .aload_n 0, 0, 0, 0), (139, .getfield 63, 5, 21, 0), (142, .iload 4, 0, 0, 0), (144, .iaload, 0, 0, 0), (145, .iastore, 0, 0, 0), (146, .aload_n 0, 0, 0, 0), (147, .getfield 66, 5, 22, 0), (150, .iload 4, 0, 0, 0), (152, .iaload, 0, 0, 0), (153, .istore 4, 0, 0, 0), (155, .iinc 6 (-1), 0, 0, 0), (158, .goto (-70), 0, 0, 0), (161, .aload_n 0, 0, 0, 0), (162, .getfield 75, 5, 28, 0), (165, .aload_n 0, 0, 0, 0), (166, .getfield 138, 5, 31, 0), (169, .iconst 4, 0, 0, 0), (170, .iastore, 0, 0, 0), (171, .aload_n 0, 0, 0, 0), (172, .aload_n 0, 0, 0, 0), (173, .getfield 19, 5, 3, 0), (176, .iload_n 1, 0, 0, 0), (177, .iaload, 0, 0, 0), (178, .iload 5, 0, 0, 0), (180, .invokevirtual 171, 0, 0, 0), (183, .return_, 0, 0, 0)]
/-- NeedMachineModel.force(I)V -/
def zm_c97 : List (Nat × zm_I) := [(0, .aload_n 0, 0, 0, 0), (1, .getfield 45, 5, 15, 0), (4, .iload_n 1, 0, 0, 0), (5, .iaload, 0, 0, 0), (6, .iconst 2, 0, 0, 0), (7, .if_icmp .ne 19, 0, 0, 0), (10, .aload_n 0, 0, 0, 0), (11, .dup, 0, 0, 0), (12, .getfield 161, 5, 36, 0), (15, .iconst 1, 0, 0, 0), (16, .iadd, 0, 0, 0), (17, .putfield 161, 5, 36, 0), (20, .aload_n 0, 0, 0, 0), (21, .iload_n 1, 0, 0, 0), (22, .invokevirtual 164, 0, 0, 0), (25, .return_, 0, 0, 0), (26, .aload_n 0, 0, 0, 0), (27, .getfield 45, 5, 15, 0), (30, .iload_n 1, 0, 0, 0), (31, .iaload, 0, 0, 0), (32, .iconst 1, 0, 0, 0), (33, .if_icmp .ne 9, 0, 0, 0), (36, .aload_n 0, 0, 0, 0), (37, .iconst 4, 0, 0, 0), (38, .putfield 84, 5, 12, 0), (41, .return_, 0, 0, 0), (42, .aload_n 0, 0, 0, 0), (43, .dup, 0, 0, 0), (44, .getfield 168, 5, 35, 0), (47, .iconst 1, 0, 0, 0), (48, .iadd, 0, 0, 0), (49, .putfield 168, 5, 35, 0), (52, .aload_n 0, 0, 0, 0), (53, .getfield 45, 5, 15, 0), (56, .iload_n 1, 0, 0, 0), (57, .iconst 1, 0, 0, 0), (58, .iastore, 0, 0, 0), (59, .aload_n 0, 0, 0, 0), (60, .getfield 81, 5, 30, 0), (63, .aload_n 0, 0, 0, 0), (64, .getfield 138, 5, 31, 0), (67, .iload_n 1, 0, 0, 0), (68, .iastore, 0, 0, 0), (69, .aload_n 0, 0, 0, 0), (70, .getfield 75, 5, 28, 0), (73, .aload_n 0, 0, 0, 0), (74, .getfield 138, 5, 31, 0), (77, .iconst 3, 0, 0, 0), (78, .iastore, 0, 0, 0), (79, .aload_n 0, 0, 0, 0), (80, .aload_n 0, 0, 0, 0), (81, .getfield 39, 5, 13, 0), (84, .iload_n 1, 0, 0, 0), (85, .iaload, 0, 0, 0), (86, .aload_n 0, 0, 0, 0), (87, .getfield 42, 5, 14, 0), (90, .iload_n 1, 0, 0, 0), (91, .iaload, 0, 0, 0), (92, .invokevirtual 171, 0, 0, 0), (95, .return_, 0, 0, 0)]
/-- NeedMachineModel.isNumber()Z -/
def zm_c98 : List (Nat × zm_I) := [(0, .aload_n 0, 0, 0, 0), (1, .getfield 144, 5, 37, 0), (4, .ifCond .eq 8, 0, 0, 0), (7, .aload_n 0, 0, 0, 0), (8, .iconst 5, 0, 0, 0), (9, .putfield 84, 5, 12, 0), (12, .aload_n 0, 0, 0, 0), (13, .getfield 84, 5, 12, 0), (16, .ifCond .ne 7, 0, 0, 0), (19, .iconst 1, 0, 0, 0), (20, .goto 4, 0, 0, 0), (23, .iconst 0, 0, 0, 0), (24, .ireturn, 0, 0, 0)]
/-- NeedMachineModel.binary(III)I -/
def zm_c99 : List (Nat × zm_I) := [(0, .iload_n 1, 0, 0, 0), (1, .bipush 47, 0, 0, 0), (3, .if_icmp .eq 9, 0, 0, 0), (6, .iload_n 1, 0, 0, 0), (7, .bipush 37, 0, 0, 0), (9, .if_icmp .ne 13, 0, 0, 0), (12, .iload_n 3, 0, 0, 0), (13, .ifCond .ne 9, 0, 0, 0), (16, .aload_n 0, 0, 0, 0), (17, .iconst 3, 0, 0, 0), (18, .invokevirtual 98, 0, 0, 0), (21, .ireturn, 0, 0, 0), (22, .iload_n 1, 0, 0, 0), (23, .lookupswitch 88 #[(37, 73), (42, 65), (43, 57), (45, 61), (47, 69), (60, 77)], 57, 0, 0), (80, .iload_n 2, 0, 0, 0), (81, .iload_n 3, 0, 0, 0), (82, .iadd, 0, 0, 0), (83, .ireturn, 0, 0, 0), (84, .iload_n 2, 0, 0, 0), (85, .iload_n 3, 0, 0, 0), (86, .isub, 0, 0, 0), (87, .ireturn, 0, 0, 0), (88, .iload_n 2, 0, 0, 0), (89, .iload_n 3, 0, 0, 0), (90, .imul, 0, 0, 0), (91, .ireturn, 0, 0, 0), (92, .iload_n 2, 0, 0, 0), (93, .iload_n 3, 0, 0, 0), (94, .idiv, 0, 0, 0), (95, .ireturn, 0, 0, 0), (96, .iload_n 2, 0, 0, 0), (97, .iload_n 3, 0, 0, 0), (98, .irem, 0, 0, 0), (99, .ireturn, 0, 0, 0), (100, .iload_n 2, 0, 0, 0), (101, .iload_n 3, 0, 0, 0), (102, .if_icmp .ge 7, 0, 0, 0), (105, .iconst 1, 0, 0, 0), (106, .goto 4, 0, 0, 0), (109, .iconst 0, 0, 0, 0), (110, .ireturn, 0, 0, 0), (111, .iload_n 2, 0, 0, 0), (112, .iload_n 3, 0, 0, 0), (113, .if_icmp .ne 7, 0, 0, 0), (116, .iconst 1, 0, 0, 0), (117, .goto 4, 0, 0, 0), (120, .iconst 0, 0, 0, 0), (121, .ireturn, 0, 0, 0)]
/-- NeedMachineModel.nameAt(I)V -/
def zm_c100 : List (Nat × zm_I) := [(0, .aload_n 0, 0, 0, 0), (1, .getfield 31, 5, 7, 0), (4, .iload_n 1, 0, 0, 0), (5, .baload, 0, 0, 0), (6, .ifCond .ne 11, 0, 0, 0), (9, .aload_n 0, 0, 0, 0), (10, .iconst 2, 0, 0, 0), (11, .putfield 84, 5, 12, 0), (14, .goto 29, 0, 0, 0), (17, .aload_n 0, 0, 0, 0), (18, .getfield 25, 5, 5, 0), (21, .iload_n 1, 0, 0, 0), (22, .iaload, 0, 0, 0), (23, .ifCond .ne 13, 0, 0, 0), (26, .aload_n 0, 0, 0, 0), (27, .iload_n 1, 0, 0, 0), (28, .iconst (-1), 0, 0, 0), (29, .iconst 0, 0, 0, 0), (30, .invokevirtual 187, 0, 0, 0), (33, .goto 10, 0, 0, 0), (36, .aload_n 0, 0, 0, 0), (37, .iconst 3, 0, 0, 0), (38, .iload_n 1, 0, 0, 0), (39, .iconst (-1), 0, 0, 0), (40, .invokevirtual 157, 0, 0, 0), (43, .return_, 0, 0, 0)]
/-- NeedMachineModel.answer()I -/
def zm_c101 : List (Nat × zm_I) := [(0, .aload_n 0, 0, 0, 0), (1, .aload_n 0, 0, 0, 0), (2, .getfield 84, 5, 12, 0), (5, .ifCond .ne 7, 0, 0, 0), (8, .iconst 1, 0, 0, 0), (9, .goto 4, 0, 0, 0), (12, .iconst 0, 0, 0, 0), (13, .putfield 216, 5, 43, 0), (16, .aload_n 0, 0, 0, 0), (17, .getfield 216, 5, 43, 0), (20, .ifCond .ne 5, 0, 0, 0), (23, .iconst 0, 0, 0, 0), (24, .ireturn, 0, 0, 0), (25, .aload_n 0, 0, 0, 0), (26, .aload_n 0, 0, 0, 0), (27, .getfield 144, 5, 37, 0), (30, .putfield 220, 5, 40, 0), (33, .aload_n 0, 0, 0, 0), (34, .aload_n 0, 0, 0, 0), (35, .getfield 147, 5, 38, 0), (38, .putfield 223, 5, 41, 0), (41, .aload_n 0, 0, 0, 0), (42, .aload_n 0, 0, 0, 0), (43, .getfield 150, 5, 39, 0), (46, .putfield 226, 5, 42, 0), (49, .aload_n 0, 0, 0, 0), (50, .getfield 220, 5, 40, 0), (53, .ireturn, 0, 0, 0)]
/-- NeedMachineModel.number()I -/
def zm_c102 : List (Nat × zm_I) := [(0, .aload_n 0, 0, 0, 0), (1, .aload_n 0, 0, 0, 0), (2, .getfield 216, 5, 43, 0), (5, .ifCond .ne 7, 0, 0, 0), (8, .iconst 1, 0, 0, 0), (9, .goto 15, 0, 0, 0), (12, .aload_n 0, 0, 0, 0), (13, .getfield 220, 5, 40, 0), (16, .ifCond .eq 7, 0, 0, 0), (19, .iconst 2, 0, 0, 0), (20, .goto 4, 0, 0, 0), (23, .iconst 0, 0, 0, 0), (24, .putfield 84, 5, 12, 0), (27, .aload_n 0, 0, 0, 0), (28, .getfield 84, 5, 12, 0), (31, .ifCond .le 7, 0, 0, 0), (34, .iconst 0, 0, 0, 0), (35, .goto 7, 0, 0, 0), (38, .aload_n 0, 0, 0, 0), (39, .getfield 223, 5, 41, 0), (42, .ireturn, 0, 0, 0)]
/-- NeedMachineModel.head()I -/
def zm_c103 : List (Nat × zm_I) := [(0, .aload_n 0, 0, 0, 0), (1, .iconst 1, 0, 0, 0), (2, .invokevirtual 238, 0, 0, 0), (5, .ifCond .eq 10, 0, 0, 0), (8, .aload_n 0, 0, 0, 0), (9, .getfield 147, 5, 38, 0), (12, .goto 4, 0, 0, 0), (15, .iconst 0, 0, 0, 0), (16, .ireturn, 0, 0, 0)]
/-- NeedMachineModel.side(Z)Z -/
def zm_c104 : List (Nat × zm_I) := [(0, .aload_n 0, 0, 0, 0), (1, .aload_n 0, 0, 0, 0), (2, .getfield 216, 5, 43, 0), (5, .ifCond .eq 11, 0, 0, 0), (8, .aload_n 0, 0, 0, 0), (9, .getfield 220, 5, 40, 0), (12, .iconst 1, 0, 0, 0), (13, .if_icmp .ne 7, 0, 0, 0), (16, .iconst 2, 0, 0, 0), (17, .goto 16, 0, 0, 0), (20, .aload_n 0, 0, 0, 0), (21, .getfield 220, 5, 40, 0), (24, .iconst 2, 0, 0, 0), (25, .if_icmp .eq 7, 0, 0, 0), (28, .iconst 5, 0, 0, 0), (29, .goto 4, 0, 0, 0), (32, .iconst 0, 0, 0, 0), (33, .putfield 84, 5, 12, 0), (36, .aload_n 0, 0, 0, 0), (37, .getfield 84, 5, 12, 0), (40, .ifCond .ne 165, 0, 0, 0), (43, .iload_n 1, 0, 0, 0), (44, .ifCond .eq 10, 0, 0, 0), (47, .aload_n 0, 0, 0, 0), (48, .getfield 223, 5, 41, 0), (51, .goto 7, 0, 0, 0), (54, .aload_n 0, 0, 0, 0), (55, .getfield 226, 5, 42, 0), (58, .istore_n 2, 0, 0, 0), (59, .aload_n 0, 0, 0, 0), (60, .getfield 45, 5, 15, 0), (63, .iload_n 2, 0, 0, 0), (64, .iaload, 0, 0, 0), (65, .iconst 2, 0, 0, 0), (66, .if_icmp .ne 16, 0, 0, 0), (69, .aload_n 0, 0, 0, 0), (70, .dup, 0, 0, 0), (71, .getfield 161, 5, 36, 0), (74, .iconst 1, 0, 0, 0), (75, .iadd, 0, 0, 0), (76, .putfield 161, 5, 36, 0), (79, .goto 73, 0, 0, 0), (82, .aload_n 0, 0, 0, 0), (83, .dup, 0, 0, 0), (84, .getfield 168, 5, 35, 0), (87, .iconst 1, 0, 0, 0), (88, .iadd, 0, 0, 0), (89, .putfield 168, 5, 35, 0), (92, .aload_n 0, 0, 0, 0), (93, .getfield 45, 5, 15, 0), (96, .iload_n 2, 0, 0, 0), (97, .iconst 1, 0, 0, 0), (98, .iastore, 0, 0, 0), (99, .aload_n 0, 0, 0, 0), (100, .aload_n 0, 0, 0, 0), (101, .getfield 39, 5, 13, 0), (104, .iload_n 2, 0, 0, 0), (105, .iaload, 0, 0, 0), (106, .aload_n 0, 0, 0, 0), (107, .getfield 42, 5, 14, 0), (110, .iload_n 2, 0, 0, 0), (111, .iaload, 0, 0, 0), (112, .invokevirtual 232, 0, 0, 0), (115, .aload_n 0, 0, 0, 0), (116, .getfield 45, 5, 15, 0), (119, .iload_n 2, 0, 0, 0), (120, .iconst 2, 0, 0, 0), (121, .iastore, 0, 0, 0), (122, .aload_n 0, 0, 0, 0), (123, .getfield 48, 5, 16, 0), (126, .iload_n 2, 0, 0, 0), (127, .aload_n 0, 0, 0, 0), (128, .getfield 144, 5, 37, 0), (131, .iastore, 0, 0, 0), (132, .aload_n 0, 0, 0, 0), (133, .getfield 51, 5, 17, 0), (136, .iload_n 2, 0, 0, 0), (137, .aload_n 0, 0, 0, 0), (138, .getfield 147, 5, 38, 0), (141, .iastore, 0, 0, 0), (142, .aload_n 0, 0, 0, 0), (143, .getfield 54, 5, 18, 0), (146, .iload_n 2, 0, 0, 0), (147, .aload_n 0, 0, 0, 0), (148, .getfield 150, 5, 39, 0), (151, .iastore, 0, 0, 0), (152, .aload_n 0, 0, 0, 0), (153, .aload_n 0, 0, 0, 0), (154, .getfield 48, 5, 16, 0), (157, .iload_n 2, 0, 0, 0), (158, .iaload, 0, 0, 0), (159, .putfield 144, 5, 37, 0), (162, .aload_n 0, 0, 0, 0), (163, .aload_n 0, 0, 0, 0), (164, .getfield 51, 5, 17, 0), (167, .iload_n 2, 0, 0, 0), (168, .iaload, 0, 0, 0), (169, .putfield 147, 5, 38, 0), (172, .aload_n 0, 0, 0, 0), (173, .aload_n 0, 0, 0, 0), (174, .getfield 54, 5, 18, 0), (177, .iload_n 2, 0, 0, 0), (178, .iaload, 0, 0, 0), (179, .putfield 150, 5, 39, 0), (182, .aload_n 0, 0, 0, 0), (183, .getfield 84, 5, 12, 0), (186, .ifCond .ne 19, 0, 0, 0), (189, .iload_n 1, 0, 0, 0), (190, .ifCond .eq 15, 0, 0, 0), (193, .aload_n 0, 0, 0, 0), (194, .getfield 144, 5, 37, 0), (197, .ifCond .eq 8, 0, 0, 0), (200, .aload_n 0, 0, 0, 0), (201, .iconst 5, 0, 0, 0), (202, .putfield 84, 5, 12, 0), (205, .aload_n 0, 0, 0, 0), (206, .getfield 84, 5, 12, 0), (209, .ifCond .ne 5, 0, 0, 0), (212, .iconst 1, 0, 0, 0), (213, .ireturn, 0, 0, 0), (214, .aload_n 0, 0, 0, 0), (215, .dup, 0, 0, 0), (216, .getfield 84, 5, 12, 0), (219, .iconst 1, 0, 0, 0), (220, .isub, 0, 0, 0), (221, .putfield 84, 5, 12, 0), (224, .aload_n 0, 0, 0, 0), (225, .iconst 0, 0, 0, 0), (226, .putfield 216, 5, 43, 0), (229, .iconst 0, 0, 0, 0), (230, .ireturn, 0, 0, 0)]
/-- NeedMachineModel.tail()I -/
def zm_c105 : List (Nat × zm_I) := [(0, .aload_n 0, 0, 0, 0), (1, .iconst 0, 0, 0, 0), (2, .invokevirtual 238, 0, 0, 0), (5, .ifCond .eq 10, 0, 0, 0), (8, .aload_n 0, 0, 0, 0), (9, .invokevirtual 235, 0, 0, 0), (12, .goto 4, 0, 0, 0), (15, .iconst 0, 0, 0, 0), (16, .ireturn, 0, 0, 0)]
/-- NeedMachineModel.remove(I)V -/
def zm_c106 : List (Nat × zm_I) := [(0, .aload_n 0, 0, 0, 0), (1, .iload_n 1, 0, 0, 0), (2, .iconst 0, 0, 0, 0), (3, .iconst 5, 0, 0, 0), (4, .invokestatic 87, 0, 0, 0), (7, .invokevirtual 91, 0, 0, 0), (10, .ifCond .eq 4, 0, 0, 0), (13, .return_, 0, 0, 0), (14, .aload_n 0, 0, 0, 0), (15, .getfield 31, 5, 7, 0), (18, .iload_n 1, 0, 0, 0), (19, .baload, 0, 0, 0), (20, .ifCond .ne 8, 0, 0, 0), (23, .aload_n 0, 0, 0, 0), (24, .iconst 2, 0, 0, 0), (25, .putfield 84, 5, 12, 0), (28, .aload_n 0, 0, 0, 0), (29, .getfield 31, 5, 7, 0), (32, .iload_n 1, 0, 0, 0), (33, .iconst 0, 0, 0, 0), (34, .bastore, 0, 0, 0), (35, .return_, 0, 0, 0)]
/-- NeedMachineModel.count(I)I -/
def zm_c107 : List (Nat × zm_I) := [(0, .aload_n 0, 0, 0, 0), (1, .iconst 0, 0, 0, 0), (2, .putfield 84, 5, 12, 0), (5, .iconst 0, 0, 0, 0), (6, .istore_n 2, 0, 0, 0), (7, .iconst 0, 0, 0, 0), (8, .istore_n 3, 0, 0, 0), (9, .iload_n 3, 0, 0, 0), (10, .bipush 6, 0, 0, 0), (12, .if_icmp .ge 21, 0, 0, 0), (15, .aload_n 0, 0, 0, 0), (16, .getfield 31, 5, 7, 0), (19, .iload_n 3, 0, 0, 0), (20, .baload, 0, 0, 0), (21, .ifCond .eq 6, 0, 0, 0), (24, .iinc 2 1, 0, 0, 0), (27, .iinc 3 1, 0, 0, 0), (30, .goto (-21), 0, 0, 0), (33, .iload_n 1, 0, 0, 0), (34, .tableswitch 83 0 7 #[46, 51, 56, 58, 63, 68, 73, 78], 46, 0, 0), (80, .aload_n 0, 0, 0, 0), (81, .getfield 35, 5, 9, 0), (84, .ireturn, 0, 0, 0), (85, .aload_n 0, 0, 0, 0), (86, .getfield 95, 5, 8, 0), (89, .ireturn, 0, 0, 0), (90, .iload_n 2, 0, 0, 0), (91, .ireturn, 0, 0, 0), (92, .aload_n 0, 0, 0, 0), (93, .getfield 175, 5, 33, 0), (96, .ireturn, 0, 0, 0), (97, .aload_n 0, 0, 0, 0), (98, .getfield 178, 5, 34, 0), (101, .ireturn, 0, 0, 0), (102, .aload_n 0, 0, 0, 0), (103, .getfield 168, 5, 35, 0), (106, .ireturn, 0, 0, 0), (107, .aload_n 0, 0, 0, 0), (108, .getfield 161, 5, 36, 0), (111, .ireturn, 0, 0, 0), (112, .aload_n 0, 0, 0, 0), (113, .getfield 141, 5, 32, 0), (116, .ireturn, 0, 0, 0), (117, .iconst (-1), 0, 0, 0), (118, .ireturn, 0, 0, 0)]
def zm_cs : List (List (Nat × zm_I)) := [zm_c0, zm_c1, zm_c2, zm_c3, zm_c4, zm_c5, zm_c6, zm_c7, zm_c8, zm_c9, zm_c10, zm_c11, zm_c12, zm_c13, zm_c14, zm_c15, zm_c16, zm_c17, zm_c18, zm_c19, zm_c20, zm_c21, zm_c22, zm_c23, zm_c24, zm_c25, zm_c26, zm_c27, zm_c28, zm_c29, zm_c30, zm_c31, zm_c32, zm_c33, zm_c34, zm_c35, zm_c36, zm_c37, zm_c38, zm_c39, zm_c40, zm_c41, zm_c42, zm_c43, zm_c44, zm_c45, zm_c46, zm_c47, zm_c48, zm_c49, zm_c50, zm_c51, zm_c52, zm_c53, zm_c54, zm_c55, zm_c56, zm_c57, zm_c58, zm_c59, zm_c60, zm_c61, zm_c62, zm_c63, zm_c64, zm_c65, zm_c66, zm_c67, zm_c68, zm_c69, zm_c70, zm_c71, zm_c72, zm_c73, zm_c74, zm_c75, zm_c76, zm_c77, zm_c78, zm_c79, zm_c80, zm_c81, zm_c82, zm_c83, zm_c84, zm_c85, zm_c86, zm_c87, zm_c88, zm_c89, zm_c90, zm_c91, zm_c92, zm_c93, zm_c94, zm_c95, zm_c96, zm_c97, zm_c98, zm_c99, zm_c100, zm_c101, zm_c102, zm_c103, zm_c104, zm_c105, zm_c106, zm_c107]
def zm_lk (l : List (Nat × zm_I)) (pc : Nat) : Option zm_I := match l with
  | [] => none
  | q :: r => if Nat.beq q.1 pc = true then some q.2 else zm_lk r pc
def zm_cd (mi pc : Nat) : Option zm_I := zm_lk (zm_cs.getD mi []) pc
end
section
/-! A SMALL MACHINE: the instructions that the methods of this claim use, over a list of locals, a stack and a small heap: a list of cells (the first few are old ones, which are only read) and the number of slots made so far. Its addresses are places in that list; 'ad' turns them into the machine's. What is proved of it is carried to the machine by zm_J. -/
abbrev zm_E : Type := (Nat × vp_A) ⊕ (Nat × List Value)
abbrev zm_H : Type := List zm_E × Nat
abbrev zm_L : Type := List (Nat × Value)
def zm_sh (ad : Nat → Nat) (v : Value) : Value := match v with
  | .ref a => .ref (ad a)
  | .int x => .int x
  | .long x => .long x
  | .float x => .float x
  | .double x => .double x
  | .null => .null
  | .retAddr x => .retAddr x
theorem zm_sh_cat (ad : Nat → Nat) (v : Value) : (zm_sh ad v).category = v.category := by cases v <;> rfl
def zm_shL (ad : Nat → Nat) (lv : zm_L) : zm_L := lv.map (fun q => (q.1, zm_sh ad q.2))
def zm_isI (v : Value) : Bool := match v with | .int _ => true | _ => false
def zm_isL (v : Value) : Bool := match v with | .long _ => true | _ => false
def zm_isR (v : Value) : Bool := match v with | .ref _ => true | .null => true | _ => false
theorem zm_isR_rf (r : Option Nat) : zm_isR (va_rf r) = true := by cases r <;> rfl
theorem zm_isR_of {v : Value} (h : zm_isR v = true) : ∃ r : Option Nat, v = va_rf r := by
  cases v <;> first | (simp [zm_isR] at h; done) | exact ⟨none, rfl⟩ | exact ⟨some _, rfl⟩
theorem zm_isI_of {v : Value} (h : zm_isI v = true) : ∃ x : Int32, v = .int x := by
  cases v <;> first | (simp [zm_isI] at h; done) | exact ⟨_, rfl⟩
theorem zm_isL_of {v : Value} (h : zm_isL v = true) : ∃ x : Int64, v = .long x := by
  cases v <;> first | (simp [zm_isL] at h; done) | exact ⟨_, rfl⟩
theorem zm_cat_rf (r : Option Nat) : (va_rf r).category = 1 := by cases r <;> rfl
/-! the stack alone -/
def zm_ii (st : List Value) (f : Int32 → Int32 → Int32) : Option (List Value) := match st with
  | .int y :: .int x :: r => some (.int (f x y) :: r)
  | _ => none
def zm_ll (st : List Value) (f : Int64 → Int64 → Value) : Option (List Value) := match st with
  | .long y :: .long x :: r => some (f x y :: r)
  | _ => none
def zm_li (st : List Value) (f : Int64 → Int32 → Int64) : Option (List Value) := match st with
  | .int y :: .long x :: r => some (.long (f x y) :: r)
  | _ => none
def zm_i1 (st : List Value) (f : Int32 → Value) : Option (List Value) := match st with
  | .int x :: r => some (f x :: r)
  | _ => none
def zm_l1 (st : List Value) (f : Int64 → Value) : Option (List Value) := match st with
  | .long x :: r => some (f x :: r)
  | _ => none
theorem zm_ii_of {st st' : List Value} {f : Int32 → Int32 → Int32} (h : zm_ii st f = some st') : ∃ x y r, st = .int y :: .int x :: r ∧ st' = .int (f x y) :: r := by
  unfold zm_ii at h
  split at h
  · exact ⟨_, _, _, rfl, (Option.some.inj h).symm⟩
  · cases h
theorem zm_ll_of {st st' : List Value} {f : Int64 → Int64 → Value} (h : zm_ll st f = some st') : ∃ x y r, st = .long y :: .long x :: r ∧ st' = f x y :: r := by
  unfold zm_ll at h
  split at h
  · exact ⟨_, _, _, rfl, (Option.some.inj h).symm⟩
  · cases h
theorem zm_li_of {st st' : List Value} {f : Int64 → Int32 → Int64} (h : zm_li st f = some st') : ∃ x y r, st = .int y :: .long x :: r ∧ st' = .long (f x y) :: r := by
  unfold zm_li at h
  split at h
  · exact ⟨_, _, _, rfl, (Option.some.inj h).symm⟩
  · cases h
theorem zm_i1_of {st st' : List Value} {f : Int32 → Value} (h : zm_i1 st f = some st') : ∃ x r, st = .int x :: r ∧ st' = f x :: r := by
  unfold zm_i1 at h
  split at h
  · exact ⟨_, _, rfl, (Option.some.inj h).symm⟩
  · cases h
theorem zm_l1_of {st st' : List Value} {f : Int64 → Value} (h : zm_l1 st f = some st') : ∃ x r, st = .long x :: r ∧ st' = f x :: r := by
  unfold zm_l1 at h
  split at h
  · exact ⟨_, _, rfl, (Option.some.inj h).symm⟩
  · cases h
def zm_div (st : List Value) (f : Int32 → Int32 → Int32) : Option (List Value) := match st with
  | .int y :: .int x :: r => if y = 0 then none else some (.int (f x y) :: r)
  | _ => none
theorem zm_div_of {st st' : List Value} {f : Int32 → Int32 → Int32} (h : zm_div st f = some st') : ∃ x y r, st = .int y :: .int x :: r ∧ ¬ y = 0 ∧ st' = .int (f x y) :: r := by
  unfold zm_div at h
  split at h
  · split at h
    · cases h
    · rename_i hy
      exact ⟨_, _, _, rfl, hy, (Option.some.inj h).symm⟩
  · cases h
/-- the top, of one word -/
def zm_d1 (st : List Value) (f : Value → List Value → List Value) : Option (List Value) := match st with
  | a :: r => if a.category = 1 then some (f a r) else none
  | _ => none
theorem zm_d1_of {st st' : List Value} {f : Value → List Value → List Value} (h : zm_d1 st f = some st') : ∃ a r, st = a :: r ∧ a.category = 1 ∧ st' = f a r := by
  unfold zm_d1 at h
  split at h
  · split at h
    · rename_i hy
      exact ⟨_, _, rfl, hy, (Option.some.inj h).symm⟩
    · cases h
  · cases h
def zm_d2 (st : List Value) (f : Value → Value → List Value → List Value) : Option (List Value) := match st with
  | a :: b :: r => if a.category = 1 ∧ b.category = 1 then some (f a b r) else none
  | _ => none
theorem zm_d2_of {st st' : List Value} {f : Value → Value → List Value → List Value} (h : zm_d2 st f = some st') : ∃ a b r, st = a :: b :: r ∧ a.category = 1 ∧ b.category = 1 ∧ st' = f a b r := by
  unfold zm_d2 at h
  split at h
  · split at h
    · rename_i hy
      exact ⟨_, _, _, rfl, hy.1, hy.2, (Option.some.inj h).symm⟩
    · cases h
  · cases h
def zm_d3 (st : List Value) (f : Value → Value → Value → List Value → List Value) : Option (List Value) := match st with
  | a :: b :: d :: r => if a.category = 1 ∧ b.category = 1 ∧ d.category = 1 then some (f a b d r) else none
  | _ => none
theorem zm_d3_of {st st' : List Value} {f : Value → Value → Value → List Value → List Value} (h : zm_d3 st f = some st') : ∃ a b d r, st = a :: b :: d :: r ∧ a.category = 1 ∧ b.category = 1 ∧ d.category = 1 ∧ st' = f a b d r := by
  unfold zm_d3 at h
  split at h
  · split at h
    · rename_i hy
      exact ⟨_, _, _, _, rfl, hy.1, hy.2.1, hy.2.2, (Option.some.inj h).symm⟩
    · cases h
  · cases h
def zm_pure (i : Instr) (st : List Value) : Option (List Value) := match i with
  | .iconst n => some (.int (Int32.ofInt n) :: st)
  | .bipush n => some (.int (Int8.ofInt n).toInt32 :: st)
  | .sipush n => some (.int (Int16.ofInt n).toInt32 :: st)
  | .lconst n => some (.long (Int64.ofNat (n : Nat)) :: st)
  | .aconst_null => some (.null :: st)
  | .iadd => zm_ii st (fun x y => x + y)
  | .isub => zm_ii st (fun x y => x - y)
  | .imul => zm_ii st (fun x y => x * y)
  | .iand => zm_ii st (fun x y => x &&& y)
  | .ior => zm_ii st (fun x y => x ||| y)
  | .ixor => zm_ii st (fun x y => x ^^^ y)
  | .ishl => zm_ii st (fun x y => x <<< (y &&& 31))
  | .ishr => zm_ii st (fun x y => x >>> (y &&& 31))
  | .iushr => zm_ii st (fun x y => (x.toUInt32 >>> (y.toUInt32 &&& Int32.toUInt32 31)).toInt32)
  | .idiv => zm_div st (fun x y => x / y)
  | .irem => zm_div st (fun x y => x - x / y * y)
  | .ineg => zm_i1 st (fun x => .int (-x))
  | .ladd => zm_ll st (fun x y => .long (x + y))
  | .lsub => zm_ll st (fun x y => .long (x - y))
  | .land => zm_ll st (fun x y => .long (x &&& y))
  | .lor => zm_ll st (fun x y => .long (x ||| y))
  | .lcmp => zm_ll st (fun x y => .int (lg_cmp x y))
  | .lushr => zm_li st (fun x y => (x.toUInt64 >>> (y.toInt64.toUInt64 &&& Int64.toUInt64 63)).toInt64)
  | .lshl => zm_li st (fun x y => x <<< (y.toInt64 &&& 63))
  | .lshr => zm_li st (fun x y => x >>> (y.toInt64 &&& 63))
  | .i2l => zm_i1 st (fun x => .long x.toInt64)
  | .i2c => zm_i1 st (fun x => .int (x.toUInt32 % 65536).toInt32)
  | .i2b => zm_i1 st (fun x => .int x.toInt8.toInt32)
  | .l2i => zm_l1 st (fun x => .int x.toInt32)
  | .dup => zm_d1 st (fun a r => a :: a :: r)
  | .pop => zm_d1 st (fun _ r => r)
  | .dup_x1 => zm_d2 st (fun a b r => a :: b :: a :: r)
  | .dup2 => zm_d2 st (fun a b r => a :: b :: a :: b :: r)
  | .dup_x2 => zm_d3 st (fun a b d r => a :: b :: d :: a :: r)
  | _ => none
/-- how long an instruction is -/
def zm_len (i : Instr) : Nat := match i with
  | .bipush _ => 2
  | .sipush _ => 3
  | .iload _ => 2
  | .lload _ => 2
  | .aload _ => 2
  | .istore _ => 2
  | .lstore _ => 2
  | .astore _ => 2
  | .iinc _ _ => 3
  | .goto _ => 3
  | .ifCond _ _ => 3
  | .if_icmp _ _ => 3
  | .if_acmp _ _ => 3
  | .ifnull _ => 3
  | .ifnonnull _ => 3
  | .getfield _ => 3
  | .putfield _ => 3
  | .getstatic _ => 3
  | .new _ => 3
  | .newarray _ => 2
  | .anewarray _ => 3
  | .checkcast _ => 3
  | .instanceof _ => 3
  | .ldc _ => 2
  | .ldc2_w _ => 3
  | .invokestatic _ => 3
  | .invokespecial _ => 3
  | .invokevirtual _ => 3
  | _ => 1
section ZP
variable {p : Program} {l : Launch} {e : Env} {R : Room} {s : State} {m : MethodId} {args : Array Value} {below : List Frame} {meth : Method} {c : Code} {H : Heap} {locs : List Loc} {cells slots : Nat} {Q : State → Prop}
variable {cc : ByteArray} {pc : Nat} {ls : Array Slot}
set_option maxHeartbeats 4000000 in
theorem zm_pure_ok (ad : Nat → Nat) (hexec : p.tables.exec = Jvm.exec) (hb : c.code = cc) {i : Instr} {st st' : List Value} (h : zm_pure i st = some st') (hdg : decode cc pc = .ok (i, zm_len i))
    (k : W p l e R s m args below meth c H locs cells slots Q (F0 m (pc + zm_len i) ls (st'.map (zm_sh ad)))) : W p l e R s m args below meth c H locs cells slots Q (F0 m pc ls (st.map (zm_sh ad))) := by
  unfold zm_pure at h
  split at h
  · cases h; exact lv_iconst hexec hb hdg rfl k
  · cases h; exact lv_bipush hexec hb hdg rfl k
  · cases h; exact lv_sipush hexec hb hdg rfl k
  · cases h; exact lv_lconst hexec hb hdg rfl k
  · cases h; exact lv_null hexec hb hdg k
  · obtain ⟨x, y, r, rfl, rfl⟩ := zm_ii_of h; exact lv_iadd hexec hb hdg k
  · obtain ⟨x, y, r, rfl, rfl⟩ := zm_ii_of h; exact lv_isub hexec hb hdg k
  · obtain ⟨x, y, r, rfl, rfl⟩ := zm_ii_of h; exact lv_imul hexec hb hdg k
  · obtain ⟨x, y, r, rfl, rfl⟩ := zm_ii_of h; exact lv_iand hexec hb hdg k
  · obtain ⟨x, y, r, rfl, rfl⟩ := zm_ii_of h; exact lv_ior hexec hb hdg k
  · obtain ⟨x, y, r, rfl, rfl⟩ := zm_ii_of h; exact lv_ixor hexec hb hdg k
  · obtain ⟨x, y, r, rfl, rfl⟩ := zm_ii_of h; exact lv_ishl hexec hb hdg k
  · obtain ⟨x, y, r, rfl, rfl⟩ := zm_ii_of h; exact lv_ishr hexec hb hdg k
  · obtain ⟨x, y, r, rfl, rfl⟩ := zm_ii_of h; exact lv_iushr hexec hb hdg rfl k
  · obtain ⟨x, y, r, rfl, hne, rfl⟩ := zm_div_of h; exact lv_idiv hexec hb hdg hne k
  · obtain ⟨x, y, r, rfl, hne, rfl⟩ := zm_div_of h; exact lv_irem hexec hb hdg hne k
  · obtain ⟨x, r, rfl, rfl⟩ := zm_i1_of h; exact lv_ineg hexec hb hdg k
  · obtain ⟨x, y, r, rfl, rfl⟩ := zm_ll_of h; exact lv_ladd hexec hb hdg k
  · obtain ⟨x, y, r, rfl, rfl⟩ := zm_ll_of h; exact lv_lsub hexec hb hdg k
  · obtain ⟨x, y, r, rfl, rfl⟩ := zm_ll_of h; exact lv_land hexec hb hdg k
  · obtain ⟨x, y, r, rfl, rfl⟩ := zm_ll_of h; exact lv_lor hexec hb hdg k
  · obtain ⟨x, y, r, rfl, rfl⟩ := zm_ll_of h; exact W.lcmp hexec hb hdg k
  · obtain ⟨x, y, r, rfl, rfl⟩ := zm_li_of h; exact lv_lushr hexec hb hdg rfl k
  · obtain ⟨x, y, r, rfl, rfl⟩ := zm_li_of h; exact lv_lshl hexec hb hdg rfl k
  · obtain ⟨x, y, r, rfl, rfl⟩ := zm_li_of h; exact lv_lshr hexec hb hdg rfl k
  · obtain ⟨x, r, rfl, rfl⟩ := zm_i1_of h; exact lv_i2l hexec hb hdg rfl k
  · obtain ⟨x, r, rfl, rfl⟩ := zm_i1_of h; exact lv_i2c hexec hb hdg rfl k
  · obtain ⟨x, r, rfl, rfl⟩ := zm_i1_of h; exact lv_i2b hexec hb hdg rfl k
  · obtain ⟨x, r, rfl, rfl⟩ := zm_l1_of h; exact lv_l2i hexec hb hdg rfl k
  · obtain ⟨a, r, rfl, ha, rfl⟩ := zm_d1_of h; exact lv_dup hexec hb hdg (by rw [zm_sh_cat]; exact ha) k
  · obtain ⟨a, r, rfl, ha, rfl⟩ := zm_d1_of h; exact lv_pop hexec hb hdg (by rw [zm_sh_cat]; exact ha) k
  · obtain ⟨a, b, r, rfl, ha, hb', rfl⟩ := zm_d2_of h; exact lv_dup_x1 hexec hb hdg (by rw [zm_sh_cat]; exact ha) (by rw [zm_sh_cat]; exact hb') k
  · obtain ⟨a, b, r, rfl, ha, hb', rfl⟩ := zm_d2_of h; exact lv_dup2_11 hexec hb hdg (by rw [zm_sh_cat]; exact ha) (by rw [zm_sh_cat]; exact hb') k
  · obtain ⟨a, b, d, r, rfl, ha, hb', hd', rfl⟩ := zm_d3_of h; exact lv_dup_x2 hexec hb hdg (by rw [zm_sh_cat]; exact ha) (by rw [zm_sh_cat]; exact hb') (by rw [zm_sh_cat]; exact hd') k
  · cases h
end ZP
/-! locals -/
def zm_get (lv : zm_L) (i : Nat) : Option Value := match lv with
  | [] => none
  | q :: r => if q.1 = i then some q.2 else zm_get r i
theorem zm_get_mem {lv : zm_L} {i : Nat} {v : Value} (h : zm_get lv i = some v) : (i, v) ∈ lv := by
  induction lv with
  | nil => cases h
  | cons q r ih =>
    unfold zm_get at h
    split at h
    · rename_i hq
      obtain ⟨a, b⟩ := q
      cases Option.some.inj h
      cases hq
      exact List.mem_cons_self
    · exact List.mem_cons_of_mem _ (ih h)
theorem zm_get_sh (ad : Nat → Nat) {lv : zm_L} {i : Nat} {v : Value} (h : zm_get lv i = some v) : zm_get (zm_shL ad lv) i = some (zm_sh ad v) := by
  induction lv with
  | nil => cases h
  | cons q r ih =>
    show (if q.1 = i then some (zm_sh ad q.2) else zm_get (zm_shL ad r) i) = _
    unfold zm_get at h
    split at h
    · rename_i hq
      rw [if_pos hq]
      cases Option.some.inj h
      rfl
    · rename_i hq
      rw [if_neg hq]
      exact ih h
theorem zm_get_ok {ls : Array Slot} {n : Nat} {lv : zm_L} {i : Nat} {v : Value} (hl : lv_has ls n lv) (h : zm_get lv i = some v) : ls[i]? = some (.val v) := hl.2.2 _ (zm_get_mem h)
/-- which local an instruction reads, and what it wants there: 0 an int, 1 a long, 2 a reference -/
def zm_ldi (i : Instr) : Option (Nat × Nat) := match i with
  | .iload_n n => some (0, (n : Nat))
  | .iload n => some (0, n)
  | .lload_n n => some (1, (n : Nat))
  | .lload n => some (1, n)
  | .aload_n n => some (2, (n : Nat))
  | .aload n => some (2, n)
  | _ => none
def zm_okv (k : Nat) (v : Value) : Bool := match k with
  | 0 => zm_isI v
  | 1 => zm_isL v
  | _ => zm_isR v
def zm_load (i : Instr) (lv : zm_L) : Option Value := match zm_ldi i with
  | some q => match zm_get lv q.2 with
    | some v => if zm_okv q.1 v = true then some v else none
    | none => none
  | none => none
theorem zm_load_of {i : Instr} {lv : zm_L} {v : Value} (h : zm_load i lv = some v) : ∃ k n, zm_ldi i = some (k, n) ∧ zm_get lv n = some v ∧ zm_okv k v = true := by
  unfold zm_load at h
  split at h
  · rename_i q hq
    split at h
    · rename_i w hw
      split at h
      · rename_i hk
        cases Option.some.inj h
        exact ⟨q.1, q.2, hq, hw, hk⟩
      · cases h
    · cases h
  · cases h
section ZL
variable {p : Program} {l : Launch} {e : Env} {R : Room} {s : State} {m : MethodId} {args : Array Value} {below : List Frame} {meth : Method} {c : Code} {H : Heap} {locs : List Loc} {cells slots : Nat} {Q : State → Prop}
variable {cc : ByteArray} {pc nL : Nat} {ls : Array Slot}
set_option maxHeartbeats 1000000 in
theorem zm_load_ok (ad : Nat → Nat) (hexec : p.tables.exec = Jvm.exec) (hb : c.code = cc) {i : Instr} {lv : zm_L} {st : List Value} {v : Value} (hl : lv_has ls nL (zm_shL ad lv)) (h : zm_load i lv = some v) (hdg : decode cc pc = .ok (i, zm_len i))
    (k : W p l e R s m args below meth c H locs cells slots Q (F0 m (pc + zm_len i) ls ((v :: st).map (zm_sh ad)))) : W p l e R s m args below meth c H locs cells slots Q (F0 m pc ls (st.map (zm_sh ad))) := by
  obtain ⟨kd, n, h1, h2, h3⟩ := zm_load_of h
  have h2 := zm_get_ok hl (zm_get_sh ad h2)
  unfold zm_ldi at h1
  split at h1
  · cases h1; obtain ⟨x, rfl⟩ := zm_isI_of h3; exact lv_iload_n hexec hb hdg rfl h2 k
  · cases h1; obtain ⟨x, rfl⟩ := zm_isI_of h3; exact lv_iload hexec hb hdg h2 k
  · cases h1; obtain ⟨x, rfl⟩ := zm_isL_of h3; exact lv_lload_n hexec hb hdg rfl h2 k
  · cases h1; obtain ⟨x, rfl⟩ := zm_isL_of h3; exact lv_lload hexec hb hdg h2 k
  · cases h1
    obtain ⟨r, rfl⟩ := zm_isR_of h3
    cases r with
    | none => exact lv_aload_nN hexec hb hdg rfl h2 k
    | some x => exact lv_aload_n hexec hb hdg rfl h2 k
  · cases h1
    obtain ⟨r, rfl⟩ := zm_isR_of h3
    cases r with
    | none => exact lv_aloadN hexec hb hdg h2 k
    | some x => exact lv_aload hexec hb hdg h2 k
  · cases h1
end ZL
def zm_sti (i : Instr) : Option (Nat × Nat) := match i with
  | .istore_n n => some (0, (n : Nat))
  | .istore n => some (0, n)
  | .lstore_n n => some (1, (n : Nat))
  | .lstore n => some (1, n)
  | .astore_n n => some (2, (n : Nat))
  | .astore n => some (2, n)
  | _ => none
def zm_set1 (lv : zm_L) (i : Nat) (v : Value) : zm_L := (i, v) :: lv.filter (fun q => !(q.1 == i) && !(q.1 + 1 == i && q.2.category == 2))
def zm_set2 (lv : zm_L) (i : Nat) (v : Value) : zm_L := (i, v) :: lv.filter (fun q => !(q.1 == i) && (!(q.1 == i + 1) && !(q.1 + 1 == i && q.2.category == 2)))
theorem zm_set1_sh (ad : Nat → Nat) (lv : zm_L) (i : Nat) (v : Value) : zm_shL ad (zm_set1 lv i v) = zm_set1 (zm_shL ad lv) i (zm_sh ad v) := by
  unfold zm_shL zm_set1
  rw [List.map_cons, List.filter_map]
  simp only [Function.comp_def, zm_sh_cat]
theorem zm_set2_sh (ad : Nat → Nat) (lv : zm_L) (i : Nat) (v : Value) : zm_shL ad (zm_set2 lv i v) = zm_set2 (zm_shL ad lv) i (zm_sh ad v) := by
  unfold zm_shL zm_set2
  rw [List.map_cons, List.filter_map]
  simp only [Function.comp_def, zm_sh_cat]
def zm_stor (nL : Nat) (i : Instr) (lv : zm_L) (st : List Value) : Option (zm_L × List Value) := match zm_sti i with
  | some q => match st with
    | v :: r => if zm_okv q.1 v = true ∧ q.2 + 1 < nL + (if q.1 = 1 then 0 else 1) then some (if q.1 = 1 then zm_set2 lv q.2 v else zm_set1 lv q.2 v, r) else none
    | [] => none
  | none => none
theorem zm_stor_of {nL : Nat} {i : Instr} {lv lv' : zm_L} {st st' : List Value} (h : zm_stor nL i lv st = some (lv', st')) : ∃ k n v, zm_sti i = some (k, n) ∧ st = v :: st' ∧ zm_okv k v = true ∧ n + 1 < nL + (if k = 1 then 0 else 1) ∧ lv' = (if k = 1 then zm_set2 lv n v else zm_set1 lv n v) := by
  unfold zm_stor at h
  split at h
  · rename_i q hq
    split at h
    · rename_i v r
      by_cases hk : zm_okv q.1 v = true ∧ q.2 + 1 < nL + (if q.1 = 1 then 0 else 1)
      · rw [if_pos hk] at h
        have e := Option.some.inj h
        cases e
        exact ⟨q.1, q.2, v, hq, rfl, hk.1, hk.2, rfl⟩
      · rw [if_neg hk] at h
        cases h
    · cases h
  · cases h
section ZS
variable {p : Program} {l : Launch} {e : Env} {R : Room} {s : State} {m : MethodId} {args : Array Value} {below : List Frame} {meth : Method} {c : Code} {H : Heap} {locs : List Loc} {cells slots : Nat} {Q : State → Prop}
variable {cc : ByteArray} {pc nL : Nat} {ls : Array Slot}
set_option maxHeartbeats 1000000 in
theorem zm_stor_ok (ad : Nat → Nat) (hexec : p.tables.exec = Jvm.exec) (hb : c.code = cc) {i : Instr} {lv lv' : zm_L} {st st' : List Value} (hl : lv_has ls nL (zm_shL ad lv)) (h : zm_stor nL i lv st = some (lv', st')) (hdg : decode cc pc = .ok (i, zm_len i))
    (kk : ∀ ls' : Array Slot, lv_has ls' nL (zm_shL ad lv') → W p l e R s m args below meth c H locs cells slots Q (F0 m (pc + zm_len i) ls' (st'.map (zm_sh ad)))) : W p l e R s m args below meth c H locs cells slots Q (F0 m pc ls (st.map (zm_sh ad))) := by
  obtain ⟨kd, n, v, h1, rfl, h3, h4, h5⟩ := zm_stor_of h
  unfold zm_sti at h1
  split at h1
  · cases h1; obtain ⟨x, rfl⟩ := zm_isI_of h3; exact lv_istore_n hexec hb hdg rfl hl (Nat.lt_of_succ_lt_succ h4) ((zm_set1_sh ad lv _ _).symm.trans (congrArg (zm_shL ad) h5.symm)) kk
  · cases h1; obtain ⟨x, rfl⟩ := zm_isI_of h3; exact lv_istore hexec hb hdg hl (Nat.lt_of_succ_lt_succ h4) ((zm_set1_sh ad lv _ _).symm.trans (congrArg (zm_shL ad) h5.symm)) kk
  · cases h1; obtain ⟨x, rfl⟩ := zm_isL_of h3; exact lv_lstore_n hexec hb hdg rfl hl h4 ((zm_set2_sh ad lv _ _).symm.trans (congrArg (zm_shL ad) h5.symm)) kk
  · cases h1; obtain ⟨x, rfl⟩ := zm_isL_of h3; exact lv_lstore hexec hb hdg hl h4 ((zm_set2_sh ad lv _ _).symm.trans (congrArg (zm_shL ad) h5.symm)) kk
  · cases h1
    obtain ⟨r, rfl⟩ := zm_isR_of h3
    cases r with
    | none => exact lv_astore_nN hexec hb hdg rfl hl (Nat.lt_of_succ_lt_succ h4) ((zm_set1_sh ad lv _ _).symm.trans (congrArg (zm_shL ad) h5.symm)) kk
    | some x => exact lv_astore_n hexec hb hdg rfl hl (Nat.lt_of_succ_lt_succ h4) ((zm_set1_sh ad lv _ _).symm.trans (congrArg (zm_shL ad) h5.symm)) kk
  · cases h1
    obtain ⟨r, rfl⟩ := zm_isR_of h3
    cases r with
    | none => exact lv_astoreN hexec hb hdg hl (Nat.lt_of_succ_lt_succ h4) ((zm_set1_sh ad lv _ _).symm.trans (congrArg (zm_shL ad) h5.symm)) kk
    | some x => exact lv_astore hexec hb hdg hl (Nat.lt_of_succ_lt_succ h4) ((zm_set1_sh ad lv _ _).symm.trans (congrArg (zm_shL ad) h5.symm)) kk
  · cases h1
end ZS
/-! iinc -/
def zm_inc (nL : Nat) (i : Instr) (lv : zm_L) : Option zm_L := match i with
  | .iinc j n => match zm_get lv j with
    | some (.int x) => if j < nL then some (zm_set1 lv j (.int (x + Int32.ofInt n))) else none
    | _ => none
  | _ => none
theorem zm_inc_of {nL : Nat} {i : Instr} {lv lv' : zm_L} (h : zm_inc nL i lv = some lv') : ∃ j n x, i = .iinc j n ∧ zm_get lv j = some (.int x) ∧ j < nL ∧ lv' = zm_set1 lv j (.int (x + Int32.ofInt n)) := by
  unfold zm_inc at h
  split at h
  · split at h
    · rename_i x hx
      split at h
      · rename_i hj
        exact ⟨_, _, x, rfl, hx, hj, (Option.some.inj h).symm⟩
      · cases h
    · cases h
  · cases h
section ZC
variable {p : Program} {l : Launch} {e : Env} {R : Room} {s : State} {m : MethodId} {args : Array Value} {below : List Frame} {meth : Method} {c : Code} {H : Heap} {locs : List Loc} {cells slots : Nat} {Q : State → Prop}
variable {cc : ByteArray} {pc nL : Nat} {ls : Array Slot}
theorem zm_inc_ok (ad : Nat → Nat) (hexec : p.tables.exec = Jvm.exec) (hb : c.code = cc) {i : Instr} {lv lv' : zm_L} {st : List Value} (hl : lv_has ls nL (zm_shL ad lv)) (h : zm_inc nL i lv = some lv') (hdg : decode cc pc = .ok (i, zm_len i))
    (kk : ∀ ls' : Array Slot, lv_has ls' nL (zm_shL ad lv') → W p l e R s m args below meth c H locs cells slots Q (F0 m (pc + zm_len i) ls' st)) : W p l e R s m args below meth c H locs cells slots Q (F0 m pc ls st) := by
  obtain ⟨j, n, x, rfl, h2, h3, h4⟩ := zm_inc_of h
  obtain ⟨k, hk⟩ := List.getElem?_of_mem (zm_get_mem (zm_get_sh ad h2))
  exact lv_iinc hexec hb hdg hl hk rfl h3 ((zm_set1_sh ad lv _ _).symm.trans (congrArg (zm_shL ad) h4.symm)) kk
end ZC
/-! branches -/
def zm_tgt (pc : Nat) (o : Int) : Option Nat := if 0 ≤ (pc : Int) + o then some ((pc : Int) + o).toNat else none
theorem zm_tgt_of {pc t : Nat} {o : Int} (h : zm_tgt pc o = some t) : (pc : Int) + o = (t : Int) := by
  unfold zm_tgt at h
  split at h
  · cases Option.some.inj h
    omega
  · cases h
def zm_b1 (st : List Value) (f : Int32 → Nat) : Option (Nat × List Value) := match st with
  | .int x :: r => some (f x, r)
  | _ => none
def zm_b2 (st : List Value) (f : Int32 → Int32 → Nat) : Option (Nat × List Value) := match st with
  | .int y :: .int x :: r => some (f x y, r)
  | _ => none
def zm_bn (st : List Value) (a b : Nat) : Option (Nat × List Value) := match st with
  | .null :: r => some (a, r)
  | .ref _ :: r => some (b, r)
  | _ => none
/-- two references: old cells are told apart from new ones alone -/
def zm_ba (no : Nat) (st : List Value) (a b : Nat) : Option (Nat × List Value) := match st with
  | .ref y :: .ref x :: r => if x = y then some (a, r) else if no ≤ x ∨ no ≤ y then some (b, r) else none
  | .null :: .null :: r => some (a, r)
  | .null :: .ref _ :: r => some (b, r)
  | .ref _ :: .null :: r => some (b, r)
  | _ => none
def zm_br0 (no : Nat) (i : Instr) (t pc : Nat) (st : List Value) : Option (Nat × List Value) := match i with
  | .goto _ => some (t, st)
  | .ifCond .eq _ => zm_b1 st (fun x => if x = 0 then t else pc + 3)
  | .ifCond .ne _ => zm_b1 st (fun x => if x = 0 then pc + 3 else t)
  | .ifCond .lt _ => zm_b1 st (fun x => if x < 0 then t else pc + 3)
  | .ifCond .ge _ => zm_b1 st (fun x => if 0 ≤ x then t else pc + 3)
  | .ifCond .gt _ => zm_b1 st (fun x => if 0 < x then t else pc + 3)
  | .ifCond .le _ => zm_b1 st (fun x => if x ≤ 0 then t else pc + 3)
  | .if_icmp .eq _ => zm_b2 st (fun x y => if x = y then t else pc + 3)
  | .if_icmp .ne _ => zm_b2 st (fun x y => if x = y then pc + 3 else t)
  | .if_icmp .lt _ => zm_b2 st (fun x y => if x < y then t else pc + 3)
  | .if_icmp .ge _ => zm_b2 st (fun x y => if y ≤ x then t else pc + 3)
  | .if_icmp .gt _ => zm_b2 st (fun x y => if y < x then t else pc + 3)
  | .if_icmp .le _ => zm_b2 st (fun x y => if x ≤ y then t else pc + 3)
  | .ifnull _ => zm_bn st t (pc + 3)
  | .ifnonnull _ => zm_bn st (pc + 3) t
  | .if_acmp .eq _ => zm_ba no st t (pc + 3)
  | .if_acmp .ne _ => zm_ba no st (pc + 3) t
  | _ => none
theorem zm_b1_of {st st' : List Value} {f : Int32 → Nat} {q : Nat} (h : zm_b1 st f = some (q, st')) : ∃ x, st = .int x :: st' ∧ q = f x := by
  unfold zm_b1 at h
  split at h
  · cases Option.some.inj h; exact ⟨_, rfl, rfl⟩
  · cases h
theorem zm_b2_of {st st' : List Value} {f : Int32 → Int32 → Nat} {q : Nat} (h : zm_b2 st f = some (q, st')) : ∃ x y, st = .int y :: .int x :: st' ∧ q = f x y := by
  unfold zm_b2 at h
  split at h
  · cases Option.some.inj h; exact ⟨_, _, rfl, rfl⟩
  · cases h
theorem zm_bn_of {st st' : List Value} {a b q : Nat} (h : zm_bn st a b = some (q, st')) : (st = .null :: st' ∧ q = a) ∨ ∃ x, st = .ref x :: st' ∧ q = b := by
  unfold zm_bn at h
  split at h
  · cases Option.some.inj h; exact Or.inl ⟨rfl, rfl⟩
  · cases Option.some.inj h; exact Or.inr ⟨_, rfl, rfl⟩
  · cases h
def zm_inj (no : Nat) (ad : Nat → Nat) : Prop := ∀ x y, x ≠ y → (no ≤ x ∨ no ≤ y) → ad x ≠ ad y
theorem zm_ba_of {no : Nat} {ad : Nat → Nat} (hi : zm_inj no ad) {st st' : List Value} {a b q : Nat} (h : zm_ba no st a b = some (q, st')) : ∃ rx ry : Option Nat, st.map (zm_sh ad) = va_rf ry :: va_rf rx :: st'.map (zm_sh ad) ∧ q = if rx = ry then a else b := by
  unfold zm_ba at h
  split at h
  · rename_i y x r
    split at h
    · rename_i hxy
      subst hxy
      cases Option.some.inj h
      exact ⟨some (ad x), some (ad x), rfl, (if_pos rfl).symm⟩
    · rename_i hxy
      split at h
      · rename_i ho
        cases Option.some.inj h
        exact ⟨some (ad x), some (ad y), rfl, (if_neg fun z => hi x y hxy ho (Option.some.inj z)).symm⟩
      · cases h
  · cases Option.some.inj h; exact ⟨none, none, rfl, (if_pos rfl).symm⟩
  · rename_i x r; cases Option.some.inj h; exact ⟨some (ad x), none, rfl, (if_neg fun z => by cases z).symm⟩
  · rename_i x r; cases Option.some.inj h; exact ⟨none, some (ad x), rfl, (if_neg fun z => by cases z).symm⟩
  · cases h
/-- the offset of a jump -/
def zm_off (i : Instr) : Option Int := match i with
  | .goto o => some o
  | .ifCond _ o => some o
  | .if_icmp _ o => some o
  | .if_acmp _ o => some o
  | .ifnull o => some o
  | .ifnonnull o => some o
  | _ => none
def zm_toff (dflt lo hi : Int) (offs : Array Int) (x : Int32) : Option Int := if x.toInt < lo ∨ hi < x.toInt then some dflt else offs[(x.toInt - lo).toNat]?
def zm_loff (dflt : Int) (ps : Array (Int × Int)) (x : Int32) : Option Int := if (ps.toList.zip (ps.toList.drop 1)).all (fun (a, next) => a.1 < next.1) = true then some (Op.lookupswitch.offset ps.toList dflt x.toInt) else none
def zm_sw (st : List Value) (pc : Nat) (f : Int32 → Option Int) : Option (Nat × List Value) := match st with
  | .int x :: r => match f x with
    | some o => match zm_tgt pc o with
      | some t => some (t, r)
      | none => none
    | none => none
  | _ => none
theorem zm_sw_of {st st' : List Value} {pc q : Nat} {f : Int32 → Option Int} (h : zm_sw st pc f = some (q, st')) : ∃ x o, st = .int x :: st' ∧ f x = some o ∧ (pc : Int) + o = (q : Int) := by
  unfold zm_sw at h
  split at h
  · rename_i x r
    split at h
    · rename_i o ho
      split at h
      · rename_i t ht
        cases Option.some.inj h
        exact ⟨x, o, rfl, ho, zm_tgt_of ht⟩
      · cases h
    · cases h
  · cases h
def zm_br (no : Nat) (i : Instr) (pc : Nat) (st : List Value) : Option (Nat × List Value) := match i with
  | .tableswitch dflt lo hi offs => zm_sw st pc (zm_toff dflt lo hi offs)
  | .lookupswitch dflt ps => zm_sw st pc (zm_loff dflt ps)
  | i => match zm_off i with
    | some o => match zm_tgt pc o with
      | some t => zm_br0 no i t pc st
      | none => none
    | none => none
section ZB
variable {p : Program} {l : Launch} {e : Env} {R : Room} {s : State} {m : MethodId} {args : Array Value} {below : List Frame} {meth : Method} {c : Code} {H : Heap} {locs : List Loc} {cells slots : Nat} {Q : State → Prop}
variable {cc : ByteArray} {pc t no : Nat} {ls : Array Slot}
set_option maxHeartbeats 4000000 in
theorem zm_br0_ok (ad : Nat → Nat) (hi : zm_inj no ad) (hexec : p.tables.exec = Jvm.exec) (hb : c.code = cc) {i : Instr} {st st' : List Value} {q : Nat} (h : zm_br0 no i t pc st = some (q, st')) (ht : ∀ o, zm_off i = some o → (pc : Int) + o = (t : Int)) (hdg : decode cc pc = .ok (i, zm_len i))
    (k : W p l e R s m args below meth c H locs cells slots Q (F0 m q ls (st'.map (zm_sh ad)))) : W p l e R s m args below meth c H locs cells slots Q (F0 m pc ls (st.map (zm_sh ad))) := by
  unfold zm_br0 at h
  split at h
  · cases h; exact lv_goto hexec hb hdg (ht _ rfl) k
  · obtain ⟨x, rfl, rfl⟩ := zm_b1_of h; exact lv_if_eq hexec hb hdg (ht _ rfl) (fun z => by rw [if_pos z] at k; exact k) (fun z => by rw [if_neg z] at k; exact k)
  · obtain ⟨x, rfl, rfl⟩ := zm_b1_of h; exact lv_if_ne hexec hb hdg (ht _ rfl) (fun z => by rw [if_neg z] at k; exact k) (fun z => by rw [if_pos z] at k; exact k)
  · obtain ⟨x, rfl, rfl⟩ := zm_b1_of h; exact lv_if_lt hexec hb hdg (ht _ rfl) (fun z => by rw [if_pos z] at k; exact k) (fun z => by rw [if_neg z] at k; exact k)
  · obtain ⟨x, rfl, rfl⟩ := zm_b1_of h; exact lv_if_ge hexec hb hdg (ht _ rfl) (fun z => by rw [if_pos z] at k; exact k) (fun z => by rw [if_neg z] at k; exact k)
  · obtain ⟨x, rfl, rfl⟩ := zm_b1_of h; exact lv_if_gt hexec hb hdg (ht _ rfl) (fun z => by rw [if_pos z] at k; exact k) (fun z => by rw [if_neg z] at k; exact k)
  · obtain ⟨x, rfl, rfl⟩ := zm_b1_of h; exact lv_if_le hexec hb hdg (ht _ rfl) (fun z => by rw [if_pos z] at k; exact k) (fun z => by rw [if_neg z] at k; exact k)
  · obtain ⟨x, y, rfl, rfl⟩ := zm_b2_of h; exact lv_icmp_eq hexec hb hdg (ht _ rfl) (fun z => by rw [if_pos z] at k; exact k) (fun z => by rw [if_neg z] at k; exact k)
  · obtain ⟨x, y, rfl, rfl⟩ := zm_b2_of h; exact lv_icmp_ne hexec hb hdg (ht _ rfl) (fun z => by rw [if_neg z] at k; exact k) (fun z => by rw [if_pos z] at k; exact k)
  · obtain ⟨x, y, rfl, rfl⟩ := zm_b2_of h; exact lv_icmp_lt hexec hb hdg (ht _ rfl) (fun z => by rw [if_pos z] at k; exact k) (fun z => by rw [if_neg z] at k; exact k)
  · obtain ⟨x, y, rfl, rfl⟩ := zm_b2_of h; exact lv_icmp_ge hexec hb hdg (ht _ rfl) (fun z => by rw [if_pos z] at k; exact k) (fun z => by rw [if_neg z] at k; exact k)
  · obtain ⟨x, y, rfl, rfl⟩ := zm_b2_of h; exact lv_icmp_gt hexec hb hdg (ht _ rfl) (fun z => by rw [if_pos z] at k; exact k) (fun z => by rw [if_neg z] at k; exact k)
  · obtain ⟨x, y, rfl, rfl⟩ := zm_b2_of h; exact lv_icmp_le hexec hb hdg (ht _ rfl) (fun z => by rw [if_pos z] at k; exact k) (fun z => by rw [if_neg z] at k; exact k)
  · rcases zm_bn_of h with ⟨rfl, rfl⟩ | ⟨x, rfl, rfl⟩
    · exact lv_ifnullN hexec hb hdg (ht _ rfl) k
    · exact lv_ifnull hexec hb hdg k
  · rcases zm_bn_of h with ⟨rfl, rfl⟩ | ⟨x, rfl, rfl⟩
    · exact lv_ifnonnullN hexec hb hdg k
    · exact lv_ifnonnull hexec hb hdg (ht _ rfl) k
  · obtain ⟨rx, ry, e1, rfl⟩ := zm_ba_of hi h; rw [e1]; exact lv_acmp_eq hexec hb hdg (ht _ rfl) (fun z => by rw [if_pos z] at k; exact k) (fun z => by rw [if_neg z] at k; exact k)
  · obtain ⟨rx, ry, e1, rfl⟩ := zm_ba_of hi h; rw [e1]; exact lv_acmp_ne hexec hb hdg (ht _ rfl) (fun z => by rw [if_neg z] at k; exact k) (fun z => by rw [if_pos z] at k; exact k)
  · cases h
theorem zm_br_ok (ad : Nat → Nat) (hi : zm_inj no ad) (hexec : p.tables.exec = Jvm.exec) (hb : c.code = cc) {i : Instr} {st st' : List Value} {q len : Nat} (h : zm_br no i pc st = some (q, st')) (hdg : decode cc pc = .ok (i, len)) (hlen : (zm_off i).isSome = true → len = zm_len i)
    (k : W p l e R s m args below meth c H locs cells slots Q (F0 m q ls (st'.map (zm_sh ad)))) : W p l e R s m args below meth c H locs cells slots Q (F0 m pc ls (st.map (zm_sh ad))) := by
  unfold zm_br at h
  split at h
  · obtain ⟨x, o, rfl, h1, h2⟩ := zm_sw_of h
    unfold zm_toff at h1
    split at h1
    · rename_i hx
      cases Option.some.inj h1
      exact lv_tableOut hexec hb hdg hx h2 k
    · rename_i hx
      exact lv_tableIn hexec hb hdg (fun z => hx (Or.inl z)) (fun z => hx (Or.inr z)) h1 h2 k
  · obtain ⟨x, o, rfl, h1, h2⟩ := zm_sw_of h
    unfold zm_loff at h1
    split at h1
    · rename_i hx
      exact lv_lookup hexec hb hdg hx (Option.some.inj h1) h2 k
    · cases h1
  · split at h
    · rename_i o ho
      split at h
      · rename_i t ht
        have hz := hlen (by rw [ho]; rfl)
        subst hz
        exact zm_br0_ok ad hi hexec hb h (fun o' ho' => by rw [ho] at ho'; cases Option.some.inj ho'; exact zm_tgt_of ht) hdg k
      · cases h
    · cases h
end ZB
end
section
/-! THE SMALL HEAP IN THE MACHINE's, AND THE JUDGEMENT zm_J: from here the method comes to an end of which Q speaks. -/
/-- what is known at the law's start: the words of the tables; the kinds of objects (D) and of arrays (kA) -/
def zm_K (D : va_G) (kA : Nat → ClassId) (U : State) : Prop := (∀ (c : Nat) (q : vw_C), zm_cl[c]? = some q → u_Kn U q.1 q.2.1 q.2.2 (D.1 c) (D.2 c)) ∧ ∀ (k : Nat) (ty : FieldType), zm_aty[k]? = some ty → ArrOfT U (kA k) ty ∧ va_RA U (kA k) ty
theorem zm_K.moved {D : va_G} {kA : Nat → ClassId} {u U : State} (hvm : u.vm.Alike U.vm) (h : zm_K D kA u) : zm_K D kA U := ⟨fun c q hq => u_Kn_moved hvm (h.1 c q hq), fun k ty hk => ⟨arrOfT_moved hvm (h.2 k ty hk).1, (h.2 k ty hk).2.moved hvm⟩⟩
abbrev zm_X : Type := Launch × State × va_G × (Nat → ClassId) × (Nat → Nat)
def zm_G0 (x : zm_X) : Prop := (∃ A : Array Value, ∀ w ∈ zm_tb, w.before A x.2.1 = true) ∧ zm_K x.2.2.1 x.2.2.2.1 x.2.1 ∧ x.1.stackTraces = false ∧ (∀ k, k < zm_no → x.2.2.2.2 k < x.2.1.heap.size) ∧
  ∀ q ∈ zm_os, q.1 < zm_no ∧ va_Z q.2.1 q.2.2.1 q.2.2.2 (.ref (x.2.2.2.2 q.1)) (fun a => x.2.1.heap.size ≤ a) x.2.1 x.2.1.heap
abbrev zm_N : Type := { x : zm_X // zm_G0 x }
abbrev zm_N.l (N : zm_N) : Launch := N.1.1
abbrev zm_N.s0 (N : zm_N) : State := N.1.2.1
abbrev zm_N.D (N : zm_N) : va_G := N.1.2.2.1
abbrev zm_N.kA (N : zm_N) : Nat → ClassId := N.1.2.2.2.1
/-- the lowest address that may be written -/
abbrev zm_N.b (N : zm_N) : Nat := N.s0.heap.size
def zm_N.ad (N : zm_N) (k : Nat) : Nat := if k < zm_no then N.1.2.2.2.2 k else N.b + (k - zm_no)
theorem zm_ad_new (N : zm_N) {k : Nat} (h : zm_no ≤ k) : N.ad k = N.b + (k - zm_no) := if_neg (Nat.not_lt.mpr h)
theorem zm_ad_old (N : zm_N) {k : Nat} (h : k < zm_no) : N.ad k < N.b := by
  unfold zm_N.ad
  rw [if_pos h]
  exact N.2.2.2.2.1 k h
theorem zm_ad_inj (N : zm_N) : zm_inj zm_no N.ad := by
  intro x y hxy ho he
  rcases Nat.lt_or_ge x zm_no with hx | hx
  · rcases Nat.lt_or_ge y zm_no with hy | hy
    · omega
    · have := zm_ad_old N hx
      rw [he, zm_ad_new N hy] at this
      omega
  · rcases Nat.lt_or_ge y zm_no with hy | hy
    · have := zm_ad_old N hy
      rw [← he, zm_ad_new N hx] at this
      omega
    · rw [zm_ad_new N hx, zm_ad_new N hy] at he
      omega
/-- an array, its references turned -/
def zm_sha (ad : Nat → Nat) (a : vp_A) : vp_A := match a.2 with
  | .inr (.inr (.inr (.inr f))) => (a.1, .inr (.inr (.inr (.inr fun j => (f j).map ad))))
  | _ => a
/-- an array's element -/
def zm_el (a : vp_A) (j : Nat) : Value := match a.2 with
  | .inl f => .int (f j)
  | .inr (.inl f) => .long (f j)
  | .inr (.inr (.inl f)) => .float (f j)
  | .inr (.inr (.inr (.inl f))) => .double (f j)
  | .inr (.inr (.inr (.inr f))) => va_rf (f j)
theorem zm_cell_el (cA : ClassId) (a : vp_A) : vp_cell cA a = arrV cA a.1 (zm_el a) := by
  obtain ⟨n, f | f | f | f | f⟩ := a <;> rfl
theorem zm_sha_1 (ad : Nat → Nat) (a : vp_A) : (zm_sha ad a).1 = a.1 := by
  obtain ⟨n, f | f | f | f | f⟩ := a <;> rfl
theorem zm_rf_sh (ad : Nat → Nat) (r : Option Nat) : va_rf (r.map ad) = zm_sh ad (va_rf r) := by cases r <;> rfl
theorem zm_sha_el (ad : Nat → Nat) (a : vp_A) (j : Nat) : zm_el (zm_sha ad a) j = zm_sh ad (zm_el a j) := by
  obtain ⟨n, f | f | f | f | f⟩ := a
  · rfl
  · rfl
  · rfl
  · rfl
  · exact zm_rf_sh ad (f j)
def zm_at (N : zm_N) (k : Nat) (e : zm_E) (H : Heap) : Prop := match e with
  | .inl x => (zm_no ≤ k → H[N.ad k]? = some (vp_cell (N.kA x.1) (zm_sha N.ad x.2))) ∧
      ∃ (cell : Cell) (ty : FieldType), zm_aty[x.1]? = some ty ∧ H[N.ad k]? = some cell ∧ N.s0.isArrayOf cell ty ∧ cell.vm ≠ .unknown ∧ cell.slots.size = x.2.1 ∧ ∀ j : Nat, j < x.2.1 → cell.slots[j]? = some (zm_sh N.ad (zm_el x.2 j))
  | .inr x => x.1 < zm_cl.length → va_at N.D zm_cl (N.ad k, .inr (x.1, x.2.map (zm_sh N.ad))) H
theorem zm_at.kept {N : zm_N} {k : Nat} {e : zm_E} {H H' : Heap} (h : zm_at N k e H) (hq : H'[N.ad k]? = H[N.ad k]?) : zm_at N k e H' := by
  cases e with
  | inl x =>
    obtain ⟨h1, cell, ty, h2, h3, h4⟩ := h
    exact ⟨fun z => by rw [hq]; exact h1 z, cell, ty, h2, by rw [hq]; exact h3, h4⟩
  | inr x => exact fun z => (h z).kept hq
/-- a new array stands -/
theorem zm_at.arr {N : zm_N} {k t : Nat} {a : vp_A} {ty : FieldType} {H : Heap} (ht : zm_aty[t]? = some ty) (h : H[N.ad k]? = some (vp_cell (N.kA t) (zm_sha N.ad a))) : zm_at N k (.inl (t, a)) H := by
  refine ⟨fun _ => h, _, ty, ht, h, ?_, ?_, ?_, ?_⟩
  · rw [zm_cell_el]
    exact (N.2.2.1.2 t ty ht).1 _ _
  · rw [zm_cell_el]
    exact fun z => by cases z
  · rw [zm_cell_el, arrV_size, zm_sha_1]
  · intro j hj
    rw [zm_cell_el, arrV_read _ _ (by rw [zm_sha_1]; exact hj), zm_sha_el]
def zm_Rp (N : zm_N) (G : zm_H) (H : Heap) : Prop :=
  H.size + zm_no = N.b + G.1.length ∧ zm_no ≤ G.1.length ∧ (∀ (k : Nat) (e : zm_E), G.1[k]? = some e → zm_at N k e H) ∧ ∀ q : Nat, q < N.b → H[q]? = N.s0.heap[q]?
/-- how a method ends: it gives a value or none, or it throws (the number of the exception's kind, its place) -/
abbrev zm_O : Type := Option Value ⊕ (Nat × Nat)
/-- what is known of a thrown thing -/
def zm_xc (N : zm_N) (x : Nat × Nat) (t : State) : Prop := ∃ (C : String) (cell : Cell), zm_xn[x.1]? = some C ∧ t.heap[N.ad x.2]? = some cell ∧ cell.vm = .none ∧ t.vm.findClass C = some cell.cls
def zm_om (N : zm_N) (z : zm_O) (o : Outcome) (t : State) : Prop := match z with
  | .inl v => o = .returned (v.map (zm_sh N.ad))
  | .inr x => o = .threw (N.ad x.2) ∧ zm_xc N x t
def zm_End (N : zm_N) (s : State) (sl0 : Nat) (below : List Frame) (Q : zm_O → zm_H → Prop) (t : State) : Prop :=
  ∃ (z : zm_O) (G : zm_H) (o : Outcome) (L : List Loc) (cells slots : Nat), t.status = .running ∧ Ended t below o ∧ zm_om N z o t ∧ Q z G ∧ zm_Rp N G t.heap ∧ s.WarmedH t.vm ∧ s.sameButNew ({ t with vm := s.vm } : State) L cells slots ∧ (∀ q ∈ L, N.b ≤ q.base) ∧ s.heap.size + cells = t.heap.size ∧ sl0 + slots = G.2
/-- an invocation of the method mi, with d frames of room -/
def zm_Cx (N : zm_N) (d mi : Nat) (p : Program) (R : Room) (s : State) (m : MethodId) (meth : Method) (c : Code) (sl0 : Nat) : Prop :=
  p.tables.exec = Jvm.exec ∧ c.code = zm_by mi ∧ c.maxLocals = zm_nl mi ∧ s.vm.findClass (zm_mn mi).cls = some m.cls ∧ N.s0.WarmedH s.vm ∧ meth.locks = false ∧ meth.sig.returnType = zm_rt mi ∧ meth.name = (zm_mn mi).name ∧
  c.exceptionTable.toList = tableOf (zm_hd mi) ∧ d ≤ R.frames ∧ zm_w * d ≤ R.locals ∧ N.b + zm_C ≤ s.heap.size + R.cells + zm_no ∧ zm_S ≤ sl0 + R.slots
def zm_J (N : zm_N) (d mi pc : Nat) (lv : zm_L) (st : List Value) (G : zm_H) (Q : zm_O → zm_H → Prop) : Prop :=
  ∀ (p : Program) (e : Env) (R : Room) (s : State) (m : MethodId) (args : Array Value) (below : List Frame) (meth : Method) (c : Code) (sl0 : Nat), zm_Cx N d mi p R s m meth c sl0 →
  ∀ (H : Heap) (locs : List Loc) (ls : Array Slot) (cells slots : Nat), zm_Rp N G H → lv_has ls (zm_nl mi) (zm_shL N.ad lv) → (∀ q ∈ locs, N.b ≤ q.base) → s.heap.size + cells = H.size → sl0 + slots = G.2 →
    W p N.l e R s m args below meth c H locs cells slots (zm_End N s sl0 below Q) (F0 m pc ls (st.map (zm_sh N.ad)))
theorem zm_Wmono {p : Program} {l : Launch} {e : Env} {R : Room} {s : State} {m : MethodId} {args : Array Value} {below : List Frame} {meth : Method} {c : Code} {H : Heap} {locs : List Loc} {cells slots : Nat} {Q Q' : State → Prop} {g : JFrame} (h : ∀ t, Q t → Q' t)
    (k : W p l e R s m args below meth c H locs cells slots Q g) : W p l e R s m args below meth c H locs cells slots Q' g := fun T hT X => by
  obtain ⟨t, a, b⟩ := k T hT X
  exact ⟨t, a, h t b⟩
theorem zm_End.mono {N : zm_N} {s : State} {sl0 : Nat} {below : List Frame} {Q Q' : zm_O → zm_H → Prop} (h : ∀ z G, Q z G → Q' z G) {t : State} (k : zm_End N s sl0 below Q t) : zm_End N s sl0 below Q' t := by
  obtain ⟨z, G, o, L, ce, sl, a1, a2, a3, a4, a5⟩ := k
  exact ⟨z, G, o, L, ce, sl, a1, a2, a3, h z G a4, a5⟩
theorem zm_J.mono {N : zm_N} {d mi pc : Nat} {lv : zm_L} {st : List Value} {G : zm_H} {Q Q' : zm_O → zm_H → Prop} (k : zm_J N d mi pc lv st G Q) (h : ∀ z G, Q z G → Q' z G) : zm_J N d mi pc lv st G Q' :=
  fun p e R s m args below meth c sl0 C H locs ls cells slots h1 h2 h3 h4 h5 => zm_Wmono (fun _ q => q.mono h) (k p e R s m args below meth c sl0 C H locs ls cells slots h1 h2 h3 h4 h5)
/-! words -/
theorem zm_wd (N : zm_N) {U : State} (hW : N.s0.WarmedH U.vm) {w : Cond} (hw : w ∈ zm_tb) (hg : (w.onTables && w.keeps) = true) (a : Array Value) : w.before a U = true := by
  obtain ⟨A, hA⟩ := N.2.1
  exact word_at hW (Or.inl hg) (hA w hw)
theorem zm_wdA (N : zm_N) {U : State} (hW : N.s0.WarmedH U.vm) {ty : FieldType} (hw : Cond.arrayClass ty ∈ zm_tb) (a : Array Value) : (Cond.arrayClass ty).before a U = true := by
  obtain ⟨A, hA⟩ := N.2.1
  exact word_at hW (Or.inr ⟨ty, rfl⟩) (hA _ hw)
theorem zm_kn (N : zm_N) {U : State} (hW : N.s0.WarmedH U.vm) : zm_K N.D N.kA U := N.2.2.1.moved hW.alike
/-! the heap's moves -/
def zm_set (G : zm_H) (a : Nat) (e : zm_E) : zm_H := (G.1.set a e, G.2)
def zm_new (G : zm_H) (e : zm_E) (n : Nat) : zm_H := (G.1 ++ [e], G.2 + n)
theorem zm_Rp.lt {N : zm_N} {G : zm_H} {a : Nat} {e : zm_E} (ha : G.1[a]? = some e) : a < G.1.length := (List.getElem?_eq_some_iff.mp ha).1
theorem zm_Rp.ne {N : zm_N} {G : zm_H} {a q : Nat} {e e' : zm_E} (hn : zm_no ≤ a) (h : q ≠ a) : N.ad q ≠ N.ad a := zm_ad_inj N q a h (Or.inr hn)
theorem zm_Rp.set {N : zm_N} {G : zm_H} {H H' : Heap} (h : zm_Rp N G H) {a : Nat} {e : zm_E} (hn : zm_no ≤ a) (ha : zm_at N a e H') (hz : H'.size = H.size) (ho : ∀ q : Nat, q ≠ N.ad a → H'[q]? = H[q]?) : zm_Rp N (zm_set G a e) H' := by
  refine ⟨by rw [hz, h.1]; simp [zm_set], by simp only [zm_set, List.length_set]; exact h.2.1, fun q x hq => ?_, fun q hq => ?_⟩
  · by_cases hqa : q = a
    · subst hqa
      have hl : q < G.1.length := by
        have := (List.getElem?_eq_some_iff.mp hq).1
        simpa [zm_set] using this
      have : (zm_set G q e).1[q]? = some e := by simp [zm_set, hl]
      rw [this] at hq
      cases hq
      exact ha
    · have : (zm_set G a e).1[q]? = G.1[q]? := by simp only [zm_set]; exact List.getElem?_set_ne (Ne.symm hqa)
      rw [this] at hq
      exact (h.2.2.1 q x hq).kept (ho _ (zm_ad_inj N q a hqa (Or.inr hn)))
  · rw [ho q (by have := zm_ad_new N hn; omega)]
    exact h.2.2.2 q hq
theorem zm_Rp.new {N : zm_N} {G : zm_H} {H H' : Heap} (h : zm_Rp N G H) {e : zm_E} {n : Nat} (ha : zm_at N G.1.length e H') (hz : H'.size = H.size + 1) (ho : ∀ q : Nat, q < H.size → H'[q]? = H[q]?) : zm_Rp N (zm_new G e n) H' := by
  have h1 := h.1
  have h2 := h.2.1
  refine ⟨by rw [hz]; simp only [zm_new, List.length_append, List.length_singleton]; omega, by simp only [zm_new, List.length_append, List.length_singleton]; omega, fun q x hq => ?_, fun q hq => ?_⟩
  · by_cases hqa : q = G.1.length
    · subst hqa
      have : (zm_new G e n).1[G.1.length]? = some e := by simp [zm_new]
      rw [this] at hq
      cases hq
      exact ha
    · have hl : q < G.1.length := by
        have := (List.getElem?_eq_some_iff.mp hq).1
        simp only [zm_new, List.length_append, List.length_singleton] at this
        omega
      have : (zm_new G e n).1[q]? = G.1[q]? := by simp only [zm_new]; exact List.getElem?_append_left hl
      rw [this] at hq
      refine (h.2.2.1 q x hq).kept (ho _ ?_)
      rcases Nat.lt_or_ge q zm_no with hx | hx
      · have := zm_ad_old N hx
        omega
      · rw [zm_ad_new N hx]
        omega
  · rw [ho q (by omega)]
    exact h.2.2.2 q hq
theorem zm_Rp.next {N : zm_N} {G : zm_H} {H : Heap} (h : zm_Rp N G H) : N.ad G.1.length = H.size := by
  rw [zm_ad_new N h.2.1]
  have := h.1
  have := h.2.1
  omega
end
section
/-! CALLS: a callee's judgement, from its entry, serves every call of it. -/
theorem zm_weaken {tb : Tables} {e : Env} {g : Frame} {below : List Frame} {a b : State} (h : Steps tb e (g :: below) a b) : Steps tb e below a b := by
  obtain ⟨n, hn, hw⟩ := h
  exact ⟨n, hn, fun k hk => Within.weaken (mid := [g]) (hw k hk)⟩
theorem zm_args_sh (ad : Nat → Nat) (vs : List Value) : ∀ i : Nat, lv_args i (vs.map (zm_sh ad)) = zm_shL ad (lv_args i vs) := by
  induction vs with
  | nil => intro i; rfl
  | cons v r ih =>
    intro i
    show (i, zm_sh ad v) :: lv_args (if (zm_sh ad v).category = 2 then i + 2 else i + 1) (r.map (zm_sh ad)) = (i, zm_sh ad v) :: zm_shL ad (lv_args (if v.category = 2 then i + 2 else i + 1) r)
    rw [zm_sh_cat, ih]
theorem zm_sl_sh (ad : Nat → Nat) (vs : List Value) : (lg_sl (vs.map (zm_sh ad))).length = (lg_sl vs).length := by
  induction vs with
  | nil => rfl
  | cons v r ih =>
    unfold lg_sl at ih ⊢
    rw [List.map_cons, List.flatMap_cons, List.flatMap_cons, List.length_append, List.length_append, ih, zm_sh_cat]
    by_cases h : v.category = 2
    · rw [if_pos h, if_pos h]; rfl
    · rw [if_neg h, if_neg h]; rfl
theorem zm_cat_sh (ad : Nat → Nat) (vs : List Value) : ((vs.map (zm_sh ad)).map fun v => v.category).sum = (vs.map fun v => v.category).sum := by
  rw [List.map_map]
  exact congrArg List.sum (List.map_congr_left fun v _ => zm_sh_cat ad v)
/-- the method's code stands in the tables -/
def zm_okm (mj : Nat) : Prop := plainName (zm_mn mj).cls = true ∧ ((Cond.code (zm_mn mj) (zm_by mj) (zm_nl mj) (zm_rt mj) ∈ zm_tb ∧ zm_hd mj = []) ∨ Cond.codeWith (zm_mn mj) (zm_by mj) (zm_nl mj) (zm_rt mj) (zm_hd mj) ∈ zm_tb)
theorem zm_okm_spec (N : zm_N) {U : State} (hW : N.s0.WarmedH U.vm) {mj : Nat} (h : zm_okm mj) :
    ∃ (mk : MethodId) (methk : Method) (ck : Code), U.methodNamed? (zm_mn mj) = some mk ∧ U.vm.method? mk = some methk ∧ methk.code = some ck ∧ ck.code = zm_by mj ∧ ck.maxLocals = zm_nl mj ∧ methk.sig.returnType = zm_rt mj ∧ methk.locks = false ∧ ck.exceptionTable.toList = tableOf (zm_hd mj) ∧ parseMethodDescriptor (zm_mn mj).desc = some methk.sig := by
  rcases h.2 with ⟨h1, h2⟩ | h1
  · have hw := zm_wd N hW h1 rfl #[]
    obtain ⟨mk, hn⟩ := Cond.code_named hw
    obtain ⟨methk, ck, a1, a2, a3, a4, a5, a6, a7, a8⟩ := Cond.code_spec hn hw
    refine ⟨mk, methk, ck, hn, a1, a2, a3, a4, a5, a6, ?_, a8⟩
    rw [h2]
    have : ck.exceptionTable = #[] := by simpa using a7
    rw [this]
    rfl
  · obtain ⟨mk, methk, ck, hn, a1, a2, a3, a4, a5, a6, a7, a8⟩ := Cond.codeWith_spec (zm_wd N hW h1 rfl #[])
    refine ⟨mk, methk, ck, hn, a1, a2, a3, a4, a6, a7, ?_, a8⟩
    rw [← a5, tableOf, List.map_map]
    exact (List.map_id' _).symm.trans (List.map_congr_left fun x _ => by cases x; rfl)
set_option maxHeartbeats 4000000 in
theorem zm_callc {N : zm_N} {d mi mj : Nat} {av : List Value} {G : zm_H} {Q1 : zm_O → zm_H → Prop} (hJ : zm_J N d mj 0 (lv_args 0 av) [] G Q1) (hok : zm_okm mj)
    {p : Program} {e : Env} {R : Room} {s : State} {m : MethodId} {args : Array Value} {below : List Frame} {meth : Method} {c : Code} {sl0 : Nat} (C : zm_Cx N (d + 1) mi p R s m meth c sl0)
    {T : State} {locs : List Loc} {cells slots : Nat} (X : Stand p N.l e R s m args below meth c T locs cells slots) (hR : zm_Rp N G T.heap) (hL : ∀ q ∈ locs, N.b ≤ q.base) (hc : s.heap.size + cells = T.heap.size) (hs : sl0 + slots = G.2)
    {g : JFrame} (hg : g.method = m) (hsize : g.locals.size = c.maxLocals) {ig : Instr} {len : Nat} (hdg : decode c.code g.pc = .ok (ig, len)) (hw : 2 * g.monitorRoom + (g.stack.map fun v => v.category).sum + (zm_nl mj + 11) ≤ zm_w)
    {mk : MethodId} (hn : T.methodNamed? (zm_mn mj) = some mk) (hfit : (lg_sl av).length ≤ zm_nl mj) (hcm : G.1.length ≤ zm_C) (hsm : G.2 ≤ zm_S) :
    ∃ (z : zm_O) (G' : zm_H) (T' : State) (L : List Loc) (k n : Nat), Q1 z G' ∧ Stand p N.l e R s m args below meth c T' (locs ++ L) (cells + k) (slots + n) ∧ zm_Rp N G' T'.heap ∧ (∀ q ∈ locs ++ L, N.b ≤ q.base) ∧ s.heap.size + (cells + k) = T'.heap.size ∧ sl0 + (slots + n) = G'.2 ∧
      ((∃ v, z = .inl v ∧ ∀ acts, Steps p.tables e below (doInvoke e (T.setTop g) acts mk (av.map (zm_sh N.ad)).toArray).1 (T'.setTop { g with pc := g.pc + len, stack := (v.map (zm_sh N.ad)).toList ++ g.stack })) ∨
       (∃ x, z = .inr x ∧ zm_xc N x T' ∧ ∀ acts, Steps p.tables e below (doInvoke e (T.setTop g) acts mk (av.map (zm_sh N.ad)).toArray).1 ((T'.setTop g).pushFrame (.throwing (N.ad x.2))))) := by
  obtain ⟨cx1, cx2, cx3, cx4, cx5, cx6, cx7, cx8, cx9, cx10, cx11, cx12, cx13⟩ := C
  have hWT : N.s0.WarmedH T.vm := State.WarmedH.trans cx5 X.warmed
  obtain ⟨mk', methk, ck, hn', hmk, hck, hbk, hlk, hrk, hlock, hek, hsig⟩ := zm_okm_spec N hWT hok
  cases Option.some.inj (hn.symm.trans hn')
  have hpk : T.plainMethod mk := State.plainMethod.of_named (plainFor_of_name hok.1) hn hmk
  have hz := hR.1
  have hcr : cells ≤ R.cells := by omega
  have hsr : slots ≤ R.slots := by omega
  have hwd : zm_w * (d + 1) = zm_w * d + zm_w := Nat.mul_succ _ _
  generalize hav : av.map (zm_sh N.ad) = av'
  have hfit' : (lg_sl av').length ≤ zm_nl mj := by rw [← hav, zm_sl_sh]; exact hfit
  obtain ⟨Y, hin⟩ := X.into hg hsize hdg av'.toArray (R' := { frames := R.frames - 1, cells := R.cells - cells, slots := R.slots - slots, locals := R.locals - zm_w }) hmk hck hlock hpk
    (by show R.frames - 1 + 1 ≤ R.frames; omega) (by show _ + _ + (R.locals - zm_w) ≤ R.locals; rw [hlk]; omega)
    (by show cells + (R.cells - cells) ≤ R.cells; omega) (by show slots + (R.slots - slots) ≤ R.slots; omega)
  have hl := lv_entry av' (n := zm_nl mj) hfit'
  rw [← hav, zm_args_sh, hav] at hl
  have hent : entryFrame mk av'.toArray ck.maxLocals = F0 mk 0 ((lg_sl av' ++ List.replicate (zm_nl mj - (lg_sl av').length) Slot.unset).toArray) [] := by rw [hlk, lg_entry_eq]
  generalize hU : (T.setTop g).pushFrame (.java (entryFrame mk av'.toArray ck.maxLocals)) = U at Y hin
  have hUh : U.heap = T.heap := by rw [← hU]; rfl
  have hCk : zm_Cx N d mj p { frames := R.frames - 1, cells := R.cells - cells, slots := R.slots - slots, locals := R.locals - zm_w } (T.calling g mk av'.toArray) mk methk ck G.2 := by
    refine ⟨cx1, hbk, hlk, findClass_of_methodNamed hn, hWT, hlock, hrk, (name_of_methodNamed hn hmk).1, hek, ?_, ?_, ?_, ?_⟩
    · show d ≤ R.frames - 1; omega
    · show zm_w * d ≤ R.locals - zm_w
      omega
    · show N.b + zm_C ≤ T.heap.size + (R.cells - cells) + zm_no; omega
    · show zm_S ≤ G.2 + (R.slots - slots); omega
  obtain ⟨t, hst, z, G', o, L, k, n, b1, b2, b3, b4, b5, b6, b7, b8, b9, b10⟩ := hJ p e _ (T.calling g mk av'.toArray) mk av'.toArray (.java g :: below) methk ck G.2 hCk T.heap [] _ 0 0 hR hl (fun q h => by cases h) (by show T.heap.size + 0 = T.heap.size; omega) rfl U hUh Y
  have b9' : T.heap.size + k = t.heap.size := b9
  have hLL : ∀ q ∈ locs ++ L, N.b ≤ q.base := fun q hq => by
    rcases List.mem_append.mp hq with h | h
    · exact hL q h
    · exact b8 q h
  have hsteps : ∀ acts, Steps p.tables e below (doInvoke e (T.setTop g) acts mk av'.toArray).1 t := fun acts => by
    rw [hin acts, hent]
    exact zm_weaken hst
  cases z with
  | inl v =>
    cases (show o = .returned (v.map (zm_sh N.ad)) from b3)
    obtain ⟨T', X', hW', hsame', ht⟩ := X.outOf hg hdg b2 b6 b7
    have hh : t.heap = T'.heap := by rw [ht]; rfl
    refine ⟨.inl v, G', T', L, k, n, b4, X', by rw [← hh]; exact b5, hLL, by rw [← hh]; omega, by omega, Or.inl ⟨v, rfl, fun acts => by rw [← ht]; exact hsteps acts⟩⟩
  | inr x =>
    obtain ⟨ho, C0, cell, y1, y2, y3, y4⟩ := (show o = .threw (N.ad x.2) ∧ zm_xc N x t from b3)
    subst ho
    obtain ⟨T', X', hW', hsame', ht⟩ := X.outOfThrown hg b2 b6 b7
    have hh : t.heap = T'.heap := by rw [ht]; rfl
    have hv : t.vm = T'.vm := by rw [ht]; rfl
    refine ⟨.inr x, G', T', L, k, n, b4, X', by rw [← hh]; exact b5, hLL, by rw [← hh]; omega, by omega, Or.inr ⟨x, rfl, ⟨C0, cell, y1, by rw [← hh]; exact y2, y3, by rw [← hv]; exact y4⟩, fun acts => by rw [← ht]; exact hsteps acts⟩⟩
end
section
/-! THE HEAP's INSTRUCTIONS -/
def zm_fl (x : Nat) : List FieldType := zm_ft.getD x []
def zm_fty (x y : Nat) : FieldType := (zm_fl x).getD y .int
/-- a variable of this type keeps this value as it is -/
def zm_fit (ty : FieldType) (v : Value) : Bool := match ty, v with
  | .int, .int _ => true
  | .long, .long _ => true
  | .object _, .null => true
  | .object _, .ref _ => true
  | .array _, .null => true
  | .array _, .ref _ => true
  | .boolean, .int x => decide (x = 0 ∨ x = 1)
  | .char, .int x => decide (0 ≤ x ∧ x ≤ 65535)
  | _, _ => false
theorem zm_char_nar {x : Int32} (h : 0 ≤ x ∧ x ≤ 65535) : x.toUInt32.toUInt16.toUInt32.toInt32 = x := by
  have h1 : 0 ≤ x.toInt := by have := Int32.le_iff_toInt_le.mp h.1; simpa using this
  have h2 : x.toInt ≤ 65535 := by have := Int32.le_iff_toInt_le.mp h.2; simpa using this
  obtain ⟨n, hn, rfl⟩ : ∃ n : Nat, n < 65536 ∧ x = nI n := by
    refine ⟨x.toInt.toNat, by omega, ?_⟩
    apply Int32.toInt_inj.mp
    rw [nI_toInt (by omega)]
    omega
  have := (pk_charN hn).1
  simpa [narrow] using this
theorem zm_fit_of {ty : FieldType} {v : Value} (h : zm_fit ty v = true) : narrow ty v = v ∧ fits ty v = true := by
  unfold zm_fit at h
  split at h
  · exact ⟨rfl, rfl⟩
  · exact ⟨rfl, rfl⟩
  · exact ⟨rfl, rfl⟩
  · exact ⟨rfl, rfl⟩
  · exact ⟨rfl, rfl⟩
  · exact ⟨rfl, rfl⟩
  · rcases of_decide_eq_true h with rfl | rfl <;> exact ⟨rfl, rfl⟩
  · have h := of_decide_eq_true h
    refine ⟨?_, ?_⟩
    · show Value.int _ = _
      rw [zm_char_nar h]
    · simp [fits, h.1, h.2]
  · cases h
theorem zm_fit_sh (ad : Nat → Nat) {ty : FieldType} {v : Value} (h : zm_fit ty v = true) : zm_fit ty (zm_sh ad v) = true := by
  cases v <;> first | exact h | (cases ty <;> first | exact h | rfl)
theorem zm_P1 {N : zm_N} {G : zm_H} {H : Heap} (hR : zm_Rp N G H) {a x : Nat} {fs : List Value} (hx : x < zm_cl.length) (ha : G.1[a]? = some (.inr (x, fs))) : va_P N.D zm_cl [(N.ad a, .inr (x, fs.map (zm_sh N.ad)))] H := by
  intro k q hk
  match k, hk with
  | 0, hk => cases hk; exact hR.2.2.1 a _ ha hx
/-- the words of a field's reference: pool number idx of the method mi's kind, field y of the objects x -/
def zm_okf (mi idx x y : Nat) : Prop := ∃ (C : String) (T : u_T) (n : Nat), zm_cl[x]? = some (C, T, n) ∧ y < n ∧ (∀ w ∈ u_ws C T n, w ∈ zm_tb) ∧ (∀ k, k < n → parseFieldDescriptor (T k).2.2.1 = some (zm_fty x k)) ∧ (∀ a, a < n → ∀ b, b < n → a ≠ b → (T a).2.1 ≠ (T b).2.1) ∧
  ((∃ ref, Cond.fieldLink (zm_mn mi).cls idx ref (T y).2.1 (T y).2.2.1 ∈ zm_tb ∧ (ref = (T y).1 ∨ Cond.sameField ref (T y).1 (T y).2.1 (T y).2.2.1 ∈ zm_tb)) ∨
   ∃ host, Cond.fieldLinkNest (zm_mn mi).cls idx (T y).1 (T y).2.1 (T y).2.2.1 host ∈ zm_tb)
/-- a field may be written in the method mi: it isn't final, or mi makes objects of its own kind and names it without a host -/
def zm_okw (mi idx x y : Nat) : Prop := ∀ (C : String) (T : u_T) (n : Nat), zm_cl[x]? = some (C, T, n) → (T y).2.2.2 = false ∨ ((zm_mn mi).name = "<init>" ∧ (T y).1 = (zm_mn mi).cls ∧ Cond.fieldLink (zm_mn mi).cls idx (T y).1 (T y).2.1 (T y).2.2.1 ∈ zm_tb)
theorem zm_wdF (N : zm_N) {U : State} (hW : N.s0.WarmedH U.vm) {a : String} {i : Nat} {b n d h : String} (hw : Cond.fieldLinkNest a i b n d h ∈ zm_tb) (ar : Array Value) : (Cond.fieldLinkNest a i b n d h).before ar U = true := by
  obtain ⟨A, hA⟩ := N.2.1
  exact va_Nw.use rfl (va_Nw.warmF hW (va_Nw.of rfl (hA _ hw)))
theorem zm_wdM (N : zm_N) {U : State} (hW : N.s0.WarmedH U.vm) {a : String} {i : Nat} {x : MethodName} {h : String} (hw : Cond.methodLinkNest a i x h ∈ zm_tb) (ar : Array Value) : (Cond.methodLinkNest a i x h).before ar U = true := by
  obtain ⟨A, hA⟩ := N.2.1
  exact va_Nw.use rfl (va_Nw.warmM hW (va_Nw.of rfl (hA _ hw)))
theorem zm_wdC (N : zm_N) {U : State} (hW : N.s0.WarmedH U.vm) {C T : String} (hw : Cond.castable C T ∈ zm_tb) : va_Nw (.castable C T) U := by
  obtain ⟨A, hA⟩ := N.2.1
  exact va_Nw.warmC hW (va_Nw.of rfl (hA _ hw))
theorem zm_wdO (N : zm_N) {U : State} (hW : N.s0.WarmedH U.vm) {C : String} (hw : Cond.arrayOver (.object C) ∈ zm_tb) : va_AO C U := by
  obtain ⟨A, hA⟩ := N.2.1
  exact va_AO.moved hW.alike (va_AO.of (hA _ hw))
theorem zm_hts (N : zm_N) {s : State} (hW : N.s0.WarmedH s.vm) {C : String} {T : u_T} {n : Nat} (h : ∀ w ∈ u_ws C T n, w ∈ zm_tb) (args : Array Value) : ∀ w ∈ u_ws C T n, w.before args s = true := by
  intro w hw
  refine zm_wd N hW (h w hw) ?_ args
  obtain ⟨k, -, rfl⟩ := List.mem_map.mp hw
  unfold u_lay
  split <;> rfl
theorem zm_findClass_some {s : State} {C : String} {c : ClassId} (h : s.vm.findClass C = some c) : ∃ k, s.vm.classes[c]? = some k := by
  obtain ⟨hlt, -, -⟩ := Array.findIdx?_eq_some_iff_getElem.mp h
  exact ⟨_, Array.getElem?_eq_getElem hlt⟩
section ZH
variable {N : zm_N} {d mi : Nat} {p : Program} {e : Env} {R : Room} {s : State} {m : MethodId} {args : Array Value} {below : List Frame} {meth : Method} {c : Code} {sl0 : Nat} {G : zm_H} {H : Heap} {locs : List Loc} {cells slots : Nat} {Q : State → Prop}
variable {pc : Nat} {ls : Array Slot} {r : List Value}
theorem zm_getf_ok (Cx : zm_Cx N d mi p R s m meth c sl0) {idx x y a : Nat} (hok : zm_okf mi idx x y) (hR : zm_Rp N G H) {fs : List Value} (ha : G.1[a]? = some (.inr (x, fs))) {v : Value} (hy : fs[y]? = some v) (hdg : decode (zm_by mi) pc = .ok (.getfield idx, 3))
    (k : W p N.l e R s m args below meth c H locs cells slots Q (F0 m (pc + 3) ls (zm_sh N.ad v :: r))) : W p N.l e R s m args below meth c H locs cells slots Q (F0 m pc ls (.ref (N.ad a) :: r)) := by
  obtain ⟨C, T, n, h1, h2, h3, -, -, h6⟩ := hok
  have hxl : x < zm_cl.length := (List.getElem?_eq_some_iff.mp h1).1
  have hK := zm_kn N Cx.2.2.2.2.1
  have hVK : va_K N.D zm_cl [] s := ⟨hK.1, fun k q h => by simp at h⟩
  have hy' : (fs.map (zm_sh N.ad))[y]? = some (zm_sh N.ad v) := by rw [List.getElem?_map, hy]; rfl
  rcases h6 with ⟨ref, h7, h8⟩ | ⟨host, h7⟩
  · refine va_get Cx.1 Cx.2.1 (zm_hts N Cx.2.2.2.2.1 h3 args) (fun w h => h) Cx.2.2.2.1 hVK (zm_P1 hR hxl ha) 0 rfl h1 y h2 (zm_wd N Cx.2.2.2.2.1 h7 rfl args) ?_ hy' hdg k
    intro z hz
    rcases h8 with rfl | h8
    · exact hz
    · exact u_same (zm_wd N Cx.2.2.2.2.1 h8 rfl args) z hz
  · exact va_getN Cx.1 Cx.2.1 (zm_hts N Cx.2.2.2.2.1 h3 args) (fun w h => h) Cx.2.2.2.1 hVK (zm_P1 hR hxl ha) 0 rfl h1 y h2 (zm_wdF N Cx.2.2.2.2.1 h7 args) (fun z hz => hz) hy' hdg k
set_option maxHeartbeats 1000000 in
theorem zm_putf_ok (Cx : zm_Cx N d mi p R s m meth c sl0) {idx x y a : Nat} (hok : zm_okf mi idx x y) (hfin : zm_okw mi idx x y) (hR : zm_Rp N G H) (hL : ∀ q ∈ locs, N.b ≤ q.base) {fs : List Value} (ha : G.1[a]? = some (.inr (x, fs))) (hno : zm_no ≤ a) {v : Value} (hl : y < fs.length) (hv : zm_fit (zm_fty x y) v = true) (hdg : decode (zm_by mi) pc = .ok (.putfield idx, 3))
    (k : ∀ (H' : Heap) (locs' : List Loc), zm_Rp N (zm_set G a (.inr (x, fs.set y v))) H' → H'.size = H.size → (∀ q ∈ locs', N.b ≤ q.base) → W p N.l e R s m args below meth c H' locs' cells slots Q (F0 m (pc + 3) ls r)) : W p N.l e R s m args below meth c H locs cells slots Q (F0 m pc ls (zm_sh N.ad v :: .ref (N.ad a) :: r)) := by
  obtain ⟨C, T, n, h1, h2, h3, h4, h5, h6⟩ := hok
  have hxl : x < zm_cl.length := (List.getElem?_eq_some_iff.mp h1).1
  have hK := zm_kn N Cx.2.2.2.2.1
  have hVK : va_K N.D zm_cl [] s := ⟨hK.1, fun k q h => by simp at h⟩
  have hts := zm_hts N Cx.2.2.2.2.1 h3 args
  have hap := va_apart (D := N.D) (own := C) hts (fun w h => h) (zm_fty x) h4 h5 hVK h1
  have hba : N.b ≤ N.ad a := by rw [zm_ad_new N hno]; omega
  obtain ⟨r', h7, cell, q1, q2, q3, q4⟩ := hR.2.2.1 a _ ha hxl
  have hr : r' = (C, T, n) := Option.some.inj (h7.symm.trans h1)
  subst hr
  obtain ⟨hS, hfc, kC, hkC, hkind⟩ := hK.1 x _ h1
  obtain ⟨cf, kf, fi, f, hi, hsl⟩ := hS y h2
  have hst := (u_facts hfc hkC (u_lays hts (fun w h => h) h2) hi).1
  have hn := zm_fit_of (zm_fit_sh N.ad hv)
  have hlay := hts _ (u_in_lay h2)
  have hl' : y < (fs.map (zm_sh N.ad)).length := by rw [List.length_map]; exact hl
  have fin : ∀ H' : Heap, H'[N.ad a]? = some (cell.setSlot f.slot (zm_sh N.ad v)) → H'.size = H.size → (∀ q, q ≠ N.ad a → H'[q]? = H[q]?) → W p N.l e R s m args below meth c H' (locs ++ [⟨N.ad a, f.slot⟩]) cells slots Q (F0 m (pc + 3) ls r) := by
    intro H' e1 e2 e3
    refine k H' _ (hR.set hno (fun _ => ?_) e2 e3) e2 (fun q hq => ?_)
    · rw [hsl] at e1
      show va_at N.D zm_cl (N.ad a, .inr (x, (fs.set y v).map (zm_sh N.ad))) H'
      rw [List.map_set]
      exact ⟨_, h1, t_OB.to (V := updV (vp_V (fs.map (zm_sh N.ad))) y (zm_sh N.ad v)) ⟨_, e1, q2, q3, t_set q4 hap h2 _⟩ (fun j _ => vp_updV_set hl' _ j)⟩
    · rcases List.mem_append.mp hq with h | h
      · exact hL q h
      · rw [List.mem_singleton.mp h]; exact hba
  have hslot : f.slot < cell.slots.size := by rw [hsl]; exact k2_hasslot (q4 y h2)
  unfold u_lay at hlay
  by_cases hF : (T y).2.2.2 = true
  · rw [if_pos hF] at hlay
    rcases hfin C T n h1 with hfin | ⟨hini, hdecl, h8⟩
    · rw [hF] at hfin; cases hfin
    have hcf : m.cls = cf := by
      obtain ⟨_, _, c', _, _, _, -, -, hf', -, -, -, hown2, -⟩ := Cond.laysFinal_spec hlay
      have e1 : c' = cf := by have := hi.symm.trans hf'; simp at this; exact this.1.symm
      rw [hdecl] at hown2
      rw [← e1]; exact Option.some.inj (Cx.2.2.2.1.symm.trans hown2)
    have h6 := u_fits hfc hkC hkind (Or.inr hlay) hi (h4 y h2) hn.1 hn.2
    exact W.putFinK Cx.1 Cx.2.1 Cx.2.2.2.1 (zm_wd N Cx.2.2.2.2.1 h8 rfl args) hi hst hcf (Cx.2.2.2.2.2.2.2.1.trans hini) (by rw [q2]; exact h6) q1 q3 hslot rfl rfl hdg fin
  · rw [if_neg hF] at hlay
    have h6' := u_store hfc hkC hkind hlay hi (h4 y h2) hn.1 hn.2
    rcases h6 with ⟨ref, h8, h9⟩ | ⟨host, h8⟩
    · have hsame : s.fieldFound? ref (T y).2.1 (T y).2.2.1 = some (cf, kf, fi, f) := by
        rcases h9 with rfl | h9
        · exact hi
        · exact u_same (zm_wd N Cx.2.2.2.2.1 h9 rfl args) _ hi
      exact W.putK Cx.1 Cx.2.1 (f := f) ⟨Cx.2.2.2.1, zm_wd N Cx.2.2.2.2.1 h8 rfl args, ⟨_, _, _, hsame⟩, hst⟩ (by rw [q2]; exact h6') q1 q3 hslot rfl rfl hdg fin
    · exact va_WputK Cx.1 Cx.2.1 (f := f) Cx.2.2.2.1 (zm_wdF N Cx.2.2.2.2.1 h8 args) hi hst (by rw [q2]; exact h6') q1 q3 hslot rfl rfl hdg fin
/-- objects of the kind x can be made in the method mi -/
def zm_okn (mi idx x : Nat) : Prop := ∃ (C : String) (T : u_T) (n : Nat), zm_cl[x]? = some (C, T, n) ∧ (zm_fl x).length = n ∧ (∀ w ∈ u_ws C T n, w ∈ zm_tb) ∧ (∀ k, k < n → parseFieldDescriptor (T k).2.2.1 = some (zm_fty x k)) ∧ Cond.classLink (zm_mn mi).cls idx C ∈ zm_tb ∧ Cond.instantiable C n ∈ zm_tb ∧ Cond.initialized C ∈ zm_tb
theorem zm_sh_def (ad : Nat → Nat) (ty : FieldType) : zm_sh ad (defaultValue ty) = defaultValue ty := by cases ty <;> rfl
theorem zm_new_ok (Cx : zm_Cx N d mi p R s m meth c sl0) {idx x : Nat} (hok : zm_okn mi idx x) (hR : zm_Rp N G H) (hc : s.heap.size + cells = H.size) (hs : sl0 + slots = G.2) (hC : G.1.length + 1 ≤ zm_C) (hS : G.2 + (zm_fl x).length ≤ zm_S) (hdg : decode (zm_by mi) pc = .ok (.new idx, 3))
    (k : ∀ (H' : Heap), zm_Rp N (zm_new G (.inr (x, (zm_fl x).map defaultValue)) (zm_fl x).length) H' → H'.size = H.size + 1 → W p N.l e R s m args below meth c H' locs (cells + 1) (slots + (zm_fl x).length) Q (F0 m (pc + 3) ls (.ref (N.ad G.1.length) :: r))) : W p N.l e R s m args below meth c H locs cells slots Q (F0 m pc ls r) := by
  obtain ⟨C, T, n, h1, h2, h3, h4, h5, h6, h7⟩ := hok
  obtain ⟨cx1, cx2, cx3, cx4, cx5, cx6, cx7, cx8, cx9, cx10, cx11, cx12, cx13⟩ := id Cx
  have hK := zm_kn N cx5
  have hKn := hK.1 x _ h1
  have hts := zm_hts N cx5 h3 args
  have hz := hR.1
  subst h2
  refine W.newcK cx1 cx2 cx4 (zm_wd N cx5 h5 rfl args) (zm_wd N cx5 h6 rfl args) (zm_wd N cx5 h7 rfl args) rfl hdg (by omega) (by omega) hKn.2.1 hR.next.symm fun H1 kC hkC e1 z1 o1 => ?_
  have hz1 : H1.size = H.size + 1 := by rw [z1, hR.next]
  refine k H1 (hR.new (fun _ => ⟨_, h1, (u_born (zm_fty x) hts (fun w h => h) hKn hkC e1 h4).to ?_⟩) hz1 (fun q hq => o1 q (by rw [hR.next]; exact hq))) hz1
  intro j hj
  show _ = (((zm_fl x).map defaultValue).map (zm_sh N.ad)).getD j .null
  have hj' : j < (zm_fl x).length := hj
  rw [List.getD_eq_getElem?_getD, List.getElem?_map, List.getElem?_map]
  unfold zm_fty
  rw [List.getD_eq_getElem?_getD, List.getElem?_eq_getElem hj']
  exact (zm_sh_def N.ad _).symm
/-! arrays -/
theorem zm_alen_ok (Cx : zm_Cx N d mi p R s m meth c sl0) (hR : zm_Rp N G H) {a t : Nat} {x : vp_A} (ha : G.1[a]? = some (.inl (t, x))) (hdg : decode (zm_by mi) pc = .ok (.arraylength, 1))
    (k : W p N.l e R s m args below meth c H locs cells slots Q (F0 m (pc + 1) ls (.int (Int32.ofNat x.1) :: r))) : W p N.l e R s m args below meth c H locs cells slots Q (F0 m pc ls (.ref (N.ad a) :: r)) := by
  obtain ⟨-, cell, ty, h1, h2, h3, h4, h5, h6⟩ := hR.2.2.1 a _ ha
  exact W.alen (n := Int32.ofNat x.1) Cx.1 Cx.2.1 h2 (State.isArrayOf_alike Cx.2.2.2.2.1.alike h3) (by rw [h5]) rfl rfl hdg k
/-- which array an instruction reads or writes -/
def zm_aldt (i : Instr) (ty : FieldType) : Bool := match i, ty with
  | .iaload, .int => true
  | .laload, .long => true
  | .caload, .char => true
  | .baload, .boolean => true
  | .aaload, .object _ => true
  | _, _ => false
theorem zm_ald_ok (Cx : zm_Cx N d mi p R s m meth c sl0) (hR : zm_Rp N G H) {a t : Nat} {x : vp_A} (ha : G.1[a]? = some (.inl (t, x))) {i : Instr} {ty : FieldType} (ht : zm_aty[t]? = some ty) (hi : zm_aldt i ty = true) {j : Int32} (hj : 0 ≤ j ∧ j.toNatClampNeg < x.1) (hdg : decode (zm_by mi) pc = .ok (i, 1))
    (k : W p N.l e R s m args below meth c H locs cells slots Q (F0 m (pc + 1) ls (zm_sh N.ad (zm_el x j.toNatClampNeg) :: r))) : W p N.l e R s m args below meth c H locs cells slots Q (F0 m pc ls (.int j :: .ref (N.ad a) :: r)) := by
  obtain ⟨-, cell, ty', h1, h2, h3, h4, h5, h6⟩ := hR.2.2.1 a _ ha
  cases Option.some.inj (h1.symm.trans ht)
  have h3 := State.isArrayOf_alike Cx.2.2.2.2.1.alike h3
  have hin : ¬ (j < 0 ∨ cell.slots.size ≤ j.toNatClampNeg) := by
    rw [h5]
    rintro (q | q)
    · exact absurd hj.1 (Int32.not_le.mpr q)
    · exact absurd hj.2 (Nat.not_lt.mpr q)
  have h6 := h6 _ hj.2
  unfold zm_aldt at hi
  split at hi
  · exact W.iald Cx.1 Cx.2.1 h2 h3 h4 hin h6 rfl rfl hdg k
  · exact W.lald Cx.1 Cx.2.1 h2 h3 h4 hin h6 rfl rfl hdg k
  · exact W.cald Cx.1 Cx.2.1 h2 h3 h4 hin h6 rfl rfl hdg k
  · exact W.zald Cx.1 Cx.2.1 h2 h3 h4 hin h6 rfl rfl hdg k
  · exact W.aald Cx.1 Cx.2.1 h2 h3 rfl h4 hin h6 rfl rfl hdg k
  · cases hi
/-- an array's element is written -/
def zm_aset (x : vp_A) (j : Nat) (v : Value) : Option vp_A := match x.2, v with
  | .inl f, .int y => some (x.1, .inl (upd f j y))
  | .inr (.inl f), .long y => some (x.1, .inr (.inl (vp_updL f j y)))
  | .inr (.inr (.inr (.inr f))), .ref y => some (x.1, .inr (.inr (.inr (.inr (va_up f j (some y))))))
  | .inr (.inr (.inr (.inr f))), .null => some (x.1, .inr (.inr (.inr (.inr (va_up f j none)))))
  | _, _ => none
theorem zm_aset_of {x x' : vp_A} {j : Nat} {v : Value} (h : zm_aset x j v = some x') : x'.1 = x.1 ∧ zm_el x' = updV (zm_el x) j v := by
  obtain ⟨n, f⟩ := x
  unfold zm_aset at h
  split at h
  · rename_i f y hf
    simp only at hf
    subst hf
    cases Option.some.inj h
    refine ⟨rfl, funext fun q => ?_⟩
    simp only [zm_el, updV, upd]
    by_cases hq : q = j <;> simp [hq]
  · rename_i f y hf
    simp only at hf
    subst hf
    cases Option.some.inj h
    refine ⟨rfl, funext fun q => ?_⟩
    simp only [zm_el, updV, vp_updL]
    by_cases hq : q = j <;> simp [hq]
  · rename_i f y hf
    simp only at hf
    subst hf
    cases Option.some.inj h
    refine ⟨rfl, funext fun q => ?_⟩
    simp only [zm_el, updV, va_up]
    by_cases hq : q = j <;> simp [hq, va_rf]
  · rename_i f hf
    simp only at hf
    subst hf
    cases Option.some.inj h
    refine ⟨rfl, funext fun q => ?_⟩
    simp only [zm_el, updV, va_up]
    by_cases hq : q = j <;> simp [hq, va_rf]
  · cases h
/-- a thing of the kind xv may stand in an array of references to C -/
def zm_oka (xv : Nat) (C : String) : Prop := ∃ (C' : String) (T : u_T) (n : Nat), zm_cl[xv]? = some (C', T, n) ∧ (C' = C ∨ Cond.castable C' C ∈ zm_tb)
theorem zm_ast_fin {a t : Nat} {x x' : vp_A} {j : Nat} {v : Value} {ty : FieldType} (hR : zm_Rp N G H) (hL : ∀ q ∈ locs, N.b ≤ q.base) (hno : zm_no ≤ a) (ht : zm_aty[t]? = some ty) (hx : zm_aset x j v = some x') (k : ∀ (H' : Heap) (locs' : List Loc), zm_Rp N (zm_set G a (.inl (t, x'))) H' → H'.size = H.size → (∀ q ∈ locs', N.b ≤ q.base) → W p N.l e R s m args below meth c H' locs' cells slots Q (F0 m (pc + 1) ls r)) :
    ∀ H' : Heap, H'[N.ad a]? = some ((vp_cell (N.kA t) (zm_sha N.ad x)).setSlot j (zm_sh N.ad v)) → H'.size = H.size → (∀ q, q ≠ N.ad a → H'[q]? = H[q]?) → W p N.l e R s m args below meth c H' (locs ++ [⟨N.ad a, j⟩]) cells slots Q (F0 m (pc + 1) ls r) := by
  intro H' e1 e2 e3
  obtain ⟨x1, x2⟩ := zm_aset_of hx
  refine k H' _ (hR.set hno (zm_at.arr ht ?_) e2 e3) e2 (fun q hq => ?_)
  · rw [e1, zm_cell_el, zm_cell_el, arrV_store, zm_sha_1, zm_sha_1, x1]
    congr 2
    funext q
    rw [zm_sha_el, x2]
    unfold updV
    by_cases hq : q = j
    · rw [if_pos hq, if_pos hq]
    · rw [if_neg hq, if_neg hq, zm_sha_el]
  · rcases List.mem_append.mp hq with h | h
    · exact hL q h
    · rw [List.mem_singleton.mp h, zm_ad_new N hno]; exact Nat.le_add_right _ _
/-- what is written, and by which instruction into which array -/
def zm_astv (i : Instr) (ty : FieldType) (v : Value) : Option Value := match i, ty, v with
  | .iastore, .int, .int y => some (.int y)
  | .lastore, .long, .long y => some (.long y)
  | .castore, .char, .int y => some (.int y.toUInt32.toUInt16.toUInt32.toInt32)
  | .bastore, .boolean, .int y => some (.int (y &&& 1))
  | .aastore, .object _, .ref y => some (.ref y)
  | .aastore, .object _, .null => some .null
  | _, _, _ => none
set_option maxHeartbeats 1000000 in
theorem zm_ast_ok (Cx : zm_Cx N d mi p R s m meth c sl0) (hR : zm_Rp N G H) (hL : ∀ q ∈ locs, N.b ≤ q.base) {a t : Nat} {x x' : vp_A} (ha : G.1[a]? = some (.inl (t, x))) (hno : zm_no ≤ a) {i : Instr} {ty : FieldType} (ht : zm_aty[t]? = some ty) {j : Int32} (hj : 0 ≤ j ∧ j.toNatClampNeg < x.1) {v v' : Value} (hi : zm_astv i ty v = some v')
    (hv : ∀ b C, ty = .object C → v = .ref b → ∃ xv fs, G.1[b]? = some (.inr (xv, fs)) ∧ zm_oka xv C) (hx : zm_aset x j.toNatClampNeg v' = some x') (hdg : decode (zm_by mi) pc = .ok (i, 1))
    (k : ∀ (H' : Heap) (locs' : List Loc), zm_Rp N (zm_set G a (.inl (t, x'))) H' → H'.size = H.size → (∀ q ∈ locs', N.b ≤ q.base) → W p N.l e R s m args below meth c H' locs' cells slots Q (F0 m (pc + 1) ls r)) : W p N.l e R s m args below meth c H locs cells slots Q (F0 m pc ls (zm_sh N.ad v :: .int j :: .ref (N.ad a) :: r)) := by
  obtain ⟨cx1, cx2, cx3, cx4, cx5, cx6, cx7, cx8, cx9, cx10, cx11, cx12, cx13⟩ := id Cx
  have hcell := (hR.2.2.1 a _ ha).1 hno
  have hK := (zm_kn N cx5).2 t ty ht
  have harr : s.isArrayOf (vp_cell (N.kA t) (zm_sha N.ad x)) ty := by rw [zm_cell_el]; exact hK.1 _ _
  have hkn : (vp_cell (N.kA t) (zm_sha N.ad x)).vm ≠ .unknown := by rw [zm_cell_el]; exact fun z => by cases z
  have hsz : (vp_cell (N.kA t) (zm_sha N.ad x)).slots.size = x.1 := by rw [zm_cell_el, arrV_size, zm_sha_1]
  have hj0 : ¬ j < 0 := fun q => absurd hj.1 (Int32.not_le.mpr q)
  have hin : ¬ (j < 0 ∨ (vp_cell (N.kA t) (zm_sha N.ad x)).slots.size ≤ j.toNatClampNeg) := by
    rw [hsz]
    rintro (q | q)
    · exact hj0 q
    · exact absurd hj.2 (Nat.not_lt.mpr q)
  have fin := zm_ast_fin (e := e) (args := args) (below := below) (c := c) (cells := cells) (slots := slots) (Q := Q) (pc := pc) (ls := ls) (r := r) hR hL hno ht hx k
  unfold zm_astv at hi
  split at hi
  · cases Option.some.inj hi
    exact W.iast cx1 cx2 hcell harr hkn hin rfl rfl hdg fin
  · cases Option.some.inj hi
    exact W.last cx1 cx2 hcell harr hkn hin rfl rfl hdg fin
  · cases Option.some.inj hi
    exact W.cast cx1 cx2 hcell harr hkn hin rfl rfl hdg fin
  · cases Option.some.inj hi
    exact W.zast cx1 cx2 hcell harr hkn hin rfl rfl hdg fin
  · rename_i C y
    cases Option.some.inj hi
    obtain ⟨xv, fs, g1, C', T, n, g2, g3⟩ := hv y C rfl rfl
    have hxl : xv < zm_cl.length := (List.getElem?_eq_some_iff.mp g2).1
    obtain ⟨r', h7, cellV, q1, q2, q3, q4⟩ := hR.2.2.1 y _ g1 hxl
    have hr : r' = (C', T, n) := Option.some.inj (h7.symm.trans g2)
    subst hr
    have hcls := ((zm_kn N cx5).1 xv _ g2).2
    obtain ⟨kC, hkC, -⟩ := hcls.2
    obtain ⟨kA, comp, k1, k2, k3, -⟩ := hK.2
    have hasg : s.vm.assignable cellV.cls comp = true := by
      rw [q2]
      rcases g3 with rfl | g3
      · have : comp = N.D.1 xv := Option.some.inj (k3.symm.trans hcls.1)
        rw [this]
        exact va_assign hcls
      · obtain ⟨c0, t0, f1, f2, f3⟩ := Cond.castable_spec (va_Nw.use (A := args) rfl (zm_wdC N cx5 g3))
        have e1 : c0 = N.D.1 xv := Option.some.inj (f1.symm.trans hcls.1)
        have e2 : t0 = comp := Option.some.inj (f2.symm.trans k3)
        rw [← e1, ← e2]
        exact f3
    obtain ⟨kc, hkc⟩ := zm_findClass_some k3
    refine W.aast cx1 cx2 hcell (fun q h => by rw [zm_cell_el] at h; cases h) hkn (by rw [zm_cell_el]; exact k1) k2 rfl hkc ⟨hj0, by rw [hsz]; exact hj.2⟩ q1 (fun q h => by rw [q3] at h; cases h) (by rw [q2]; exact hkC) hasg rfl rfl hdg fin
  · rename_i C
    cases Option.some.inj hi
    exact va_WaastN (C := C) cx1 cx2 hcell harr hkn hin rfl rfl hdg fin
  · cases hi
/-! new arrays -/
def zm_dflt (n : Nat) (ty : FieldType) : Option vp_A := match ty with
  | .int => some (n, .inl fun _ => 0)
  | .char => some (n, .inl fun _ => 0)
  | .boolean => some (n, .inl fun _ => 0)
  | .long => some (n, .inr (.inl fun _ => 0))
  | .object _ => some (n, .inr (.inr (.inr (.inr fun _ => none))))
  | _ => none
theorem zm_dflt_of {n : Nat} {ty : FieldType} {a : vp_A} (h : zm_dflt n ty = some a) (ad : Nat → Nat) (cA : ClassId) : a.1 = n ∧ vp_cell cA (zm_sha ad a) = arrV cA n (fun _ => defaultValue ty) := by
  unfold zm_dflt at h
  split at h <;> first | (cases Option.some.inj h; exact ⟨rfl, rfl⟩) | cases h
def zm_prim (at_ : ArrayType) : FieldType := newarray.typeOf at_
theorem zm_newp_ok (Cx : zm_Cx N d mi p R s m meth c sl0) (hR : zm_Rp N G H) {at_ : ArrayType} {t : Nat} {ty : FieldType} (ht : zm_aty[t]? = some ty) (hty : newarray.typeOf at_ = ty) (hw : Cond.arrayClass ty ∈ zm_tb) {n : Int32} (hn : 0 ≤ n) {a0 : vp_A} (ha : zm_dflt n.toNatClampNeg ty = some a0) (hbytes : n.toNatClampNeg * 8 ≤ 536870912)
    (hc : s.heap.size + cells = H.size) (hs : sl0 + slots = G.2) (hC : G.1.length + 1 ≤ zm_C) (hS : G.2 + n.toNatClampNeg ≤ zm_S) (hdg : decode (zm_by mi) pc = .ok (.newarray at_, 2))
    (k : ∀ H' : Heap, zm_Rp N (zm_new G (.inl (t, a0)) n.toNatClampNeg) H' → H'.size = H.size + 1 → W p N.l e R s m args below meth c H' locs (cells + 1) (slots + n.toNatClampNeg) Q (F0 m (pc + 2) ls (.ref (N.ad G.1.length) :: r))) : W p N.l e R s m args below meth c H locs cells slots Q (F0 m pc ls (.int n :: r)) := by
  obtain ⟨cx1, cx2, cx3, cx4, cx5, cx6, cx7, cx8, cx9, cx10, cx11, cx12, cx13⟩ := id Cx
  have hz := hR.1
  subst hty
  have hb8 : componentBytes (newarray.typeOf at_) ≤ 8 := by cases at_ <;> decide
  have hbb : n.toNatClampNeg * componentBytes (newarray.typeOf at_) ≤ 536870912 := Nat.le_trans (Nat.mul_le_mul_left _ hb8) hbytes
  refine va_newaK cx1 cx2 (zm_wdA N cx5 hw args) rfl hdg rfl (fun q => absurd hn (Int32.not_le.mpr q)) rfl hbb (by omega) (by omega) hR.next.symm fun H1 cA e1 z1 o1 hAr hNm => ?_
  have hz1 : H1.size = H.size + 1 := by rw [z1, hR.next]
  have hcA : cA = N.kA t := by
    have := ((zm_kn N cx5).2 t _ ht).2
    have h2 : s.vm.findClass ("[" ++ (newarray.typeOf at_).toString) = some (N.kA t) := by cases at_ <;> exact this
    exact Option.some.inj (hNm.symm.trans h2)
  subst hcA
  refine k H1 (hR.new (zm_at.arr ht ?_) hz1 (fun q hq => o1 q (by rw [hR.next]; exact hq))) hz1
  rw [e1, (zm_dflt_of ha N.ad _).2]
theorem zm_newr_ok (Cx : zm_Cx N d mi p R s m meth c sl0) (hR : zm_Rp N G H) {idx t : Nat} {C : String} (ht : zm_aty[t]? = some (.object C)) (hw : Cond.arrayOver (.object C) ∈ zm_tb) (hcl : Cond.classLink (zm_mn mi).cls idx C ∈ zm_tb) {n : Int32} (hn : 0 ≤ n) {a0 : vp_A} (ha : zm_dflt n.toNatClampNeg (.object C) = some a0) (hbytes : n.toNatClampNeg * 8 ≤ 536870912)
    (hc : s.heap.size + cells = H.size) (hs : sl0 + slots = G.2) (hC : G.1.length + 1 ≤ zm_C) (hS : G.2 + n.toNatClampNeg ≤ zm_S) (hdg : decode (zm_by mi) pc = .ok (.anewarray idx, 3))
    (k : ∀ H' : Heap, zm_Rp N (zm_new G (.inl (t, a0)) n.toNatClampNeg) H' → H'.size = H.size + 1 → W p N.l e R s m args below meth c H' locs (cells + 1) (slots + n.toNatClampNeg) Q (F0 m (pc + 3) ls (.ref (N.ad G.1.length) :: r))) : W p N.l e R s m args below meth c H locs cells slots Q (F0 m pc ls (.int n :: r)) := by
  obtain ⟨cx1, cx2, cx3, cx4, cx5, cx6, cx7, cx8, cx9, cx10, cx11, cx12, cx13⟩ := id Cx
  have hz := hR.1
  refine W.anew cx1 cx2 cx4 (zm_wd N cx5 hcl rfl args) (va_AO.use (zm_wdO N cx5 hw)) rfl hdg rfl (fun q => absurd hn (Int32.not_le.mpr q)) (by omega) (by omega) (by omega) fun cA kA comp f1 f2 f3 f4 => ?_
  have hcA : cA = N.kA t := by
    obtain ⟨kA', comp', k1, k2, k3, k4⟩ := ((zm_kn N cx5).2 t _ ht).2
    exact Option.some.inj (f1.symm.trans k4)
  subst hcA
  rw [← hR.next]
  refine k _ (hR.new (zm_at.arr ht ?_) (Array.size_push ..) (fun q hq => by rw [Array.getElem?_push, if_neg (Nat.ne_of_lt hq)])) (Array.size_push ..)
  rw [hR.next, Array.getElem?_push_size, (zm_dflt_of ha N.ad _).2, ← arrV_new]
  rfl
/-! constants, statics, casts -/
theorem zm_gets_ok (Cx : zm_Cx N d mi p R s m meth c sl0) (hR : zm_Rp N G H) {idx : Nat} {q : Nat × String × String × String} (hq : q ∈ zm_os) (hl : Cond.fieldLink (zm_mn mi).cls idx q.2.1 q.2.2.1 q.2.2.2 ∈ zm_tb) (hdg : decode (zm_by mi) pc = .ok (.getstatic idx, 3))
    (k : W p N.l e R s m args below meth c H locs cells slots Q (F0 m (pc + 3) ls (.ref (N.ad q.1) :: r))) : W p N.l e R s m args below meth c H locs cells slots Q (F0 m pc ls r) := by
  obtain ⟨cx1, cx2, cx3, cx4, cx5, cx6, cx7, cx8, cx9, cx10, cx11, cx12, cx13⟩ := id Cx
  obtain ⟨h1, h2⟩ := N.2.2.2.2.2 q hq
  have h3 := va_Z.moved cx5.alike h2
  obtain ⟨cf, kf, fi, f, a, cell, g1, g2, g3, g4, g5, g6, g7, g8⟩ := h3
  have hlt : a < N.b := Nat.not_le.mp g8
  have had : N.ad q.1 = N.1.2.2.2.2 q.1 := if_pos h1
  rw [had] at k
  exact W.gets cx1 cx2 cx4 (zm_wd N cx5 hl rfl args) g1 g2 g3 g4 (by rw [hR.2.2.2 a hlt]; exact g5) (fun e => by rw [e] at g6; cases g6) g7 rfl hdg k
theorem zm_cast_ok (Cx : zm_Cx N d mi p R s m meth c sl0) (hR : zm_Rp N G H) {idx a x : Nat} {fs : List Value} {nm : String} (hl : Cond.classLink (zm_mn mi).cls idx nm ∈ zm_tb) (ha : G.1[a]? = some (.inr (x, fs))) {C : String} {T : u_T} {n : Nat} (hx : zm_cl[x]? = some (C, T, n)) (hc : C = nm ∨ Cond.castable C nm ∈ zm_tb) (hdg : decode (zm_by mi) pc = .ok (.checkcast idx, 3))
    (k : W p N.l e R s m args below meth c H locs cells slots Q (F0 m (pc + 3) ls (.ref (N.ad a) :: r))) : W p N.l e R s m args below meth c H locs cells slots Q (F0 m pc ls (.ref (N.ad a) :: r)) := by
  obtain ⟨cx1, cx2, cx3, cx4, cx5, cx6, cx7, cx8, cx9, cx10, cx11, cx12, cx13⟩ := id Cx
  have hxl : x < zm_cl.length := (List.getElem?_eq_some_iff.mp hx).1
  obtain ⟨r', h7, cell, q1, q2, q3, q4⟩ := hR.2.2.1 a _ ha hxl
  have hcls := ((zm_kn N cx5).1 x _ hx).2
  have hr : ∃ cell : Cell, H[N.ad a]? = some cell ∧ cell.vm.isStatics = false ∧ s.vm.findClass C = some cell.cls := ⟨cell, q1, by rw [q3]; rfl, by rw [q2]; exact hcls.1⟩
  rcases hc with rfl | hc
  · exact va_castS cx1 cx2 cx4 (zm_wd N cx5 hl rfl args) hcls hr hdg k
  · exact va_castY cx1 cx2 cx4 (zm_wd N cx5 hl rfl args) (zm_wdC N cx5 hc) hr hdg k
end ZH
end
section
/-! THE INVOKING INSTRUCTIONS -/
def zm_okl (mi idx mj : Nat) : Prop := Cond.methodLink (zm_mn mi).cls idx (zm_mn mj) ∈ zm_tb ∨ ∃ host, Cond.methodLinkNest (zm_mn mi).cls idx (zm_mn mj) host ∈ zm_tb
def zm_okc (mi idx mj n : Nat) : Prop := zm_okm mj ∧ zm_okl mi idx mj ∧ ((zm_mn mj).cls ≠ "java/lang/invoke/MethodHandle" ∧ (zm_mn mj).cls ≠ "java/lang/invoke/VarHandle") ∧ (parseMethodDescriptor (zm_mn mj).desc).map (fun q => q.parameters.length) = some n
def zm_okS (mi idx mj n : Nat) : Prop := zm_okc mi idx mj n ∧ Cond.static (zm_mn mj) ∈ zm_tb ∧ Cond.initialized (zm_mn mj).cls ∈ zm_tb
def zm_okI (mi idx mj n : Nat) : Prop := zm_okc mi idx mj n ∧ Cond.instanceMethod (zm_mn mj) ∈ zm_tb ∧ (zm_mn mj).name = "<init>" ∧ Cond.code (zm_mn mj) (zm_by mj) (zm_nl mj) none ∈ zm_tb
/-- .. on objects of the kind x -/
def zm_okV (mi idx mj n x : Nat) : Prop := zm_okc mi idx mj n ∧ Cond.instanceMethod (zm_mn mj) ∈ zm_tb ∧ ∃ (C : String) (T : u_T) (k : Nat), zm_cl[x]? = some (C, T, k) ∧ Cond.selects C (zm_mn mj) (zm_mn mj) ∈ zm_tb
theorem zm_npar {mj n : Nat} {sg : MethodDescriptor} (h : (parseMethodDescriptor (zm_mn mj).desc).map (fun q => q.parameters.length) = some n) (hs : parseMethodDescriptor (zm_mn mj).desc = some sg) : n = sg.parameters.length := by
  rw [hs] at h
  exact (Option.some.inj h).symm
/-- what is thrown at pc of the method mi leaves it -/
def zm_out (mi pc : Nat) : Prop := ∀ q ∈ tableOf (zm_hd mi), covers q pc = false
/-- a row of a handler table lets a thing of the kind X pass -/
def zm_pass (mi pc : Nat) (X : String) (y : ExceptionTableEntry) : Prop := covers y pc = false ∨ (y.catchType ≠ 0 ∧ ∃ nm, Cond.classLink (zm_mn mi).cls y.catchType nm ∈ zm_tb ∧ Cond.not (.castable X nm) ∈ zm_tb)
/-- it takes it -/
def zm_take (mi : Nat) (X : String) (y : ExceptionTableEntry) : Prop := y.catchType ≠ 0 ∧ ∃ nm, Cond.classLink (zm_mn mi).cls y.catchType nm ∈ zm_tb ∧ Cond.castable X nm ∈ zm_tb
/-- what of the kind xk is thrown at pc of the method mi is taken at h -/
def zm_cat (mi pc xk h : Nat) : Prop := ∃ (X : String) (pre : List ExceptionTableEntry) (y : ExceptionTableEntry) (rest : List ExceptionTableEntry), zm_xn[xk]? = some X ∧ tableOf (zm_hd mi) = pre ++ y :: rest ∧ (∀ z ∈ pre, zm_pass mi pc X z) ∧ covers y pc = true ∧ zm_take mi X y ∧ y.handlerPc = h
/-! the search for a handler, where its row's kind is linked as it is looked at -/
theorem zm_find_yes {Q : Handler → Pre} {E : CtlPost} {e : Env} {dd : Bool} {acts : List Action} {s : State} {f : JFrame} {a : Addr} {x : ExceptionTableEntry} {t : List ExceptionTableEntry} {c : ClassId} {cell : Cell} (hx : covers x f.pc = true) (h0 : x.catchType ≠ 0)
    (hl : s.vm.ClassLinks e.platform f.method.cls x.catchType c) (hcell : s.heap[a]? = some cell) (hobj : ∀ k, cell.vm ≠ .statics k) (hk : ∃ k, s.vm.classes[cell.cls]? = some k) (hc : ∃ k, s.vm.classes[c]? = some k) (hfit : s.vm.assignable cell.cls c = true) :
    wp (findHandler.go f a (x :: t)) Q E e dd acts s ↔ Q (.found x.handlerPc) dd acts (s.setVm (s.vm.noted f.method.cls x.catchType (.cls c))) := by
  simp only [covers] at hx
  obtain ⟨ha, ht⟩ := (resolveClass_links e.toSetting hl).op (op := VmOp.resolveClass f.method.cls x.catchType) rfl
  have hal : s.vm.Alike (s.vm.noted f.method.cls x.catchType (.cls c)) := (Vm.Alike.refl s.vm).noted _ _ _
  obtain ⟨k1, hk1⟩ := hk
  obtain ⟨k2, hk2⟩ := hc
  obtain ⟨k1', hk1', -⟩ := hal.2.2 _ _ hk1
  obtain ⟨k2', hk2', -⟩ := hal.2.2 _ _ hk2
  have hfit' : (s.vm.noted f.method.cls x.catchType (.cls c)).assignable cell.cls c = true := by rw [hal.assignable]; exact hfit
  simp [findHandler.go, hx, h0, ha, ht, hcell, hobj, hk1', hk2', hfit', VmOp.dirties, VmOp.acts]
theorem zm_find_no {Q : Handler → Pre} {E : CtlPost} {e : Env} {dd : Bool} {acts : List Action} {s : State} {f : JFrame} {a : Addr} {x : ExceptionTableEntry} {t : List ExceptionTableEntry} {c : ClassId} {cell : Cell} (hx : covers x f.pc = true) (h0 : x.catchType ≠ 0)
    (hl : s.vm.ClassLinks e.platform f.method.cls x.catchType c) (hcell : s.heap[a]? = some cell) (hobj : ∀ k, cell.vm ≠ .statics k) (hk : ∃ k, s.vm.classes[cell.cls]? = some k) (hc : ∃ k, s.vm.classes[c]? = some k) (hno : s.vm.assignable cell.cls c = false) :
    wp (findHandler.go f a (x :: t)) Q E e dd acts s ↔ wp (findHandler.go f a t) Q E e dd acts (s.setVm (s.vm.noted f.method.cls x.catchType (.cls c))) := by
  simp only [covers] at hx
  obtain ⟨ha, ht⟩ := (resolveClass_links e.toSetting hl).op (op := VmOp.resolveClass f.method.cls x.catchType) rfl
  have hal : s.vm.Alike (s.vm.noted f.method.cls x.catchType (.cls c)) := (Vm.Alike.refl s.vm).noted _ _ _
  obtain ⟨k1, hk1⟩ := hk
  obtain ⟨k2, hk2⟩ := hc
  obtain ⟨k1', hk1', -⟩ := hal.2.2 _ _ hk1
  obtain ⟨k2', hk2', -⟩ := hal.2.2 _ _ hk2
  have hno' : (s.vm.noted f.method.cls x.catchType (.cls c)).assignable cell.cls c = false := by rw [hal.assignable]; exact hno
  simp [findHandler.go, hx, h0, ha, ht, hcell, hobj, hk1', hk2', hno', VmOp.dirties, VmOp.acts]
/-- the search, through rows that let pass, up to one that takes -/
theorem zm_search {e : Env} {s₀ : State} {f : JFrame} {a : Addr} {cell : Cell} {mi : Nat} {X : String} (N : zm_N) (hpl : e.platform.magicAccessors = ({} : Platform).magicAccessors) (hW0 : N.s0.WarmedH s₀.vm) (hown : s₀.vm.findClass (zm_mn mi).cls = some f.method.cls) (hcv : cell.vm = .none) (hcc : s₀.vm.findClass X = some cell.cls)
    (y : ExceptionTableEntry) (rest : List ExceptionTableEntry) (hy : covers y f.pc = true) (htk : zm_take mi X y) :
    ∀ (pre : List ExceptionTableEntry) (S : State), s₀.WarmedH S.vm → S.heap[a]? = some cell → (∀ z ∈ pre, zm_pass mi f.pc X z) →
      ∃ vm', s₀.WarmedH vm' ∧ ∀ (Q : Handler → Pre) (E : CtlPost) (dd : Bool) (acts : List Action), wp (findHandler.go f a (pre ++ y :: rest)) Q E e dd acts S ↔ Q (.found y.handlerPc) dd acts (S.setVm vm') := by
  have hobj : ∀ k, cell.vm ≠ .statics k := fun k h => by rw [hcv] at h; cases h
  obtain ⟨k0, hk0⟩ := zm_findClass_some hcc
  intro pre
  induction pre with
  | nil =>
    intro S hW hcell _
    obtain ⟨k0', hk0', -⟩ := hW.alike.2.2 _ _ hk0
    obtain ⟨h0, nm, hlk, hc⟩ := htk
    obtain ⟨c', hc', hl⟩ := Cond.classLink_spec hown (zm_wd N hW0 hlk rfl #[]) e.platform hpl
    have hfit : s₀.vm.assignable cell.cls c' = true := by
      obtain ⟨c0, t0, f1, f2, f3⟩ := Cond.castable_spec (va_Nw.use (A := #[]) rfl (zm_wdC N hW0 hc))
      cases Option.some.inj (hcc.symm.trans f1)
      cases Option.some.inj (hc'.symm.trans f2)
      exact f3
    obtain ⟨dk, _, _, kt, hd, _, _, _, _, hkt, _, hopen⟩ := hl.here
    obtain ⟨kt', hkt', -⟩ := hW.alike.2.2 _ _ hkt
    exact ⟨_, hW.noted hd hopen (State.rightAt_cls hl), fun Q E dd acts => by
      rw [List.nil_append]
      exact zm_find_yes hy h0 (hW.classLinks hl) hcell hobj ⟨k0', hk0'⟩ ⟨kt', hkt'⟩ (by rw [hW.alike.assignable]; exact hfit)⟩
  | cons z zs ih =>
    intro S hW hcell hpass
    obtain ⟨k0', hk0', -⟩ := hW.alike.2.2 _ _ hk0
    have hrest : ∀ w ∈ zs, zm_pass mi f.pc X w := fun w hw => hpass w (List.mem_cons_of_mem _ hw)
    by_cases hcov : covers z f.pc = true
    · rcases hpass z List.mem_cons_self with h | ⟨h0, nm, hlk, hno⟩
      · rw [h] at hcov; cases hcov
      · obtain ⟨c', hc', hl⟩ := Cond.classLink_spec hown (zm_wd N hW0 hlk rfl #[]) e.platform hpl
        have hnf : s₀.vm.assignable cell.cls c' = false := by
          obtain ⟨A, hA⟩ := N.2.1
          have hv := Cond.holds_not_iff.mp (show (Cond.not (.castable X nm)).before A N.s0 = true from hA _ hno)
          have e1 : N.s0.vm.findClass X = some cell.cls := by rw [← hW0.alike.findClass]; exact hcc
          have e2 : N.s0.vm.findClass nm = some c' := by rw [← hW0.alike.findClass]; exact hc'
          simp only [Cond.value, e1, e2] at hv
          rw [hW0.alike.assignable]
          exact Option.some.inj hv
        obtain ⟨dk, _, _, kt, hd, _, _, _, _, hkt, _, hopen⟩ := hl.here
        obtain ⟨kt', hkt', -⟩ := hW.alike.2.2 _ _ hkt
        obtain ⟨vm', h1, h2⟩ := ih (S.setVm (S.vm.noted f.method.cls z.catchType (.cls c'))) (hW.noted hd hopen (State.rightAt_cls hl)) hcell hrest
        refine ⟨vm', h1, fun Q E dd acts => ?_⟩
        rw [List.cons_append, zm_find_no hcov h0 (hW.classLinks hl) hcell hobj ⟨k0', hk0'⟩ ⟨kt', hkt'⟩ (by rw [hW.alike.assignable]; exact hnf)]
        exact h2 Q E dd acts
    · have hcov : covers z f.pc = false := by cases h : covers z f.pc <;> simp_all
      obtain ⟨vm', h1, h2⟩ := ih S hW hcell hrest
      exact ⟨vm', h1, fun Q E dd acts => by rw [List.cons_append, W.findHandler_go_skip hcov]; exact h2 Q E dd acts⟩
theorem zm_sfv (u : State) (vm' : Vm) (F E : List Frame) : ((u.setFrames F).setVm vm').setFrames E = (u.setVm vm').setFrames E := by
  have h1 : (u.setFrames F).setVm vm' = (u.setVm vm').setFrames F := rfl
  rw [h1, State.setFrames_setFrames]
/-- a thrown thing is taken in the method that is walked -/
theorem zm_caught {tb : Tables} {e : Env} {s target : State} {g : JFrame} {c : Code} {below : List Frame} {a : Addr} (h : At s g.method c below) {pc : Nat} {vm' : Vm}
    (hfind : ∀ (Q : Handler → Pre) (E : CtlPost) (dd : Bool) (acts : List Action), wp (findHandler g a) Q E e dd acts ((s.setTop g).pushFrame (.throwing a)) ↔ Q (.found pc) dd acts (((s.setTop g).pushFrame (.throwing a)).setVm vm'))
    (hrest : Steps tb e below ((s.setVm vm').setTop { g with pc := pc, stack := [.ref a] }) target) : Steps tb e below ((s.setTop g).pushFrame (.throwing a)) target := by
  obtain ⟨hgo, hw⟩ := h.throwing a
  refine Steps.head hgo hw ?_
  obtain ⟨g₀, hg⟩ := Option.isSome_iff_exists.mp h.top
  obtain ⟨r, hr⟩ := State.topJava?_eq_some.mp hg
  have key : (stepThrowing e ((s.setTop g).pushFrame (.throwing a)) a (.java g :: r)).1 = (((s.setTop g).pushFrame (.throwing a)).setVm vm').setFrames (.java { g with pc := pc, stack := [.ref a] } :: r) := by
    simp only [stepThrowing, searchFrame, vmDo]
    generalize hres : Sem.go _ e false [] ((s.setTop g).pushFrame (.throwing a)) = res
    obtain ⟨as, rfl, ha⟩ := Sem.eq_ok_of hres (a := Handler.found pc) (s' := ((s.setTop g).pushFrame (.throwing a)).setVm vm') (acts' := []) (by simp [hfind _ _ _ _])
    rfl
  have hr' : (s.setVm vm').frames = .java g₀ :: r := hr
  rw [State.setTop_of_frames _ hr'] at hrest
  rw [stepThread_throwing (frames_entered h.top _), hr, List.tail_cons, key, State.pushFrame, State.setTop_of_frames _ hr, zm_sfv, zm_sfv]
  exact hrest
section ZI
variable {N : zm_N} {d mi mj pc idx : Nat} {lv : zm_L} {av rest : List Value} {G : zm_H} {Q Q1 : zm_O → zm_H → Prop}
set_option maxHeartbeats 1000000 in
/-- what is left of a call when the callee's end is known -/
theorem zm_after {p : Program} {e : Env} {R : Room} {s : State} {m : MethodId} {args : Array Value} {below : List Frame} {meth : Method} {c : Code} {sl0 : Nat} (Cx : zm_Cx N (d + 1) mi p R s m meth c sl0) {ls : Array Slot} (hl : lv_has ls (zm_nl mi) (zm_shL N.ad lv)) {ig : Instr} {st : List Value}
    (hdg : decode (zm_by mi) pc = .ok (ig, 3)) (hw : (rest.map fun v => v.category).sum + (zm_nl mj + 11) ≤ zm_w) (hfit : (lg_sl av).length ≤ zm_nl mj) (hcm : G.1.length ≤ zm_C) (hsm : G.2 ≤ zm_S) (hokm : zm_okm mj)
    (hJ : zm_J N d mj 0 (lv_args 0 av) [] G Q1) (kr : ∀ v G', Q1 (.inl v) G' → zm_J N (d + 1) mi (pc + 3) lv (v.toList ++ rest) G' Q) (kt : ∀ x G', Q1 (.inr x) G' → (zm_out mi pc ∧ Q (.inr x) G') ∨ ∃ h, zm_cat mi pc x.1 h ∧ zm_J N (d + 1) mi h lv [.ref x.2] G' Q)
    {T : State} {locs : List Loc} {cells slots : Nat} (hL : ∀ q ∈ locs, N.b ≤ q.base) (hc : s.heap.size + cells = T.heap.size) (hs : sl0 + slots = G.2) {vm₁ : Vm} (X₁ : Stand p N.l e R s m args below meth c (T.setVm vm₁) locs cells slots) (hR : zm_Rp N G T.heap)
    {mk : MethodId} (hn : s.methodNamed? (zm_mn mj) = some mk)
    (hstep : ∀ target, (∀ acts, Steps p.tables e below (doInvoke e ((T.setVm vm₁).setTop { F0 m pc ls st with stack := rest.map (zm_sh N.ad) }) acts mk (av.map (zm_sh N.ad)).toArray).1 target) → Steps p.tables e below (T.setTop (F0 m pc ls st)) target) :
    ∃ t, Steps p.tables e below (T.setTop (F0 m pc ls st)) t ∧ zm_End N s sl0 below Q t := by
  obtain ⟨cx1, cx2, cx3, cx4, cx5, cx6, cx7, cx8, cx9, cx10, cx11, cx12, cx13⟩ := id Cx
  obtain ⟨z, G', T', L, k, n, b1, X', b3, b4, b5, b6, b7⟩ := zm_callc hJ hokm Cx X₁ hR hL hc hs (g := F0 m pc ls (rest.map (zm_sh N.ad))) rfl (by rw [cx3]; exact hl.1) (by rw [cx2]; exact hdg) (by show 2 * 0 + ((rest.map (zm_sh N.ad)).map fun v => v.category).sum + _ ≤ _; rw [zm_cat_sh]; omega) (X₁.named hn) hfit hcm hsm
  rcases b7 with ⟨v, rfl, hst⟩ | ⟨x, rfl, hxc, hst⟩
  · have hJ' := kr v G' b1 p e R s m args below meth c sl0 Cx T'.heap (locs ++ L) ls (cells + k) (slots + n) b3 hl b4 b5 b6
    have hm : (v.toList ++ rest).map (zm_sh N.ad) = (v.map (zm_sh N.ad)).toList ++ rest.map (zm_sh N.ad) := by cases v <;> rfl
    rw [hm] at hJ'
    obtain ⟨t, a1, a2⟩ := hJ' T' rfl X'
    exact ⟨t, hstep _ (fun acts => (hst acts).trans a1), a2⟩
  · rcases kt x G' b1 with ⟨hout, hq⟩ | ⟨h, ⟨Xn, pre, y, rs, y1, y2, y3, y4, y5, y6⟩, hJ'⟩
    · obtain ⟨w1, w2, w3, w4, w5⟩ := X'.leaveThrown (N.ad x.2) (g := F0 m pc ls (rest.map (zm_sh N.ad))) rfl rfl rfl (by rw [cx9]; exact hout) cx6
      exact ⟨_, hstep _ (fun acts => (hst acts).trans w1), .inr x, G', .threw (N.ad x.2), locs ++ L, cells + k, slots + n, w2, w3, ⟨rfl, hxc⟩, hq, b3, w4, w5, b4, b5, b6⟩
    · obtain ⟨C0, cell, x1, x2, x3, x4⟩ := hxc
      cases Option.some.inj (y1.symm.trans x1)
      have hpl : e.platform.magicAccessors = ({} : Platform).magicAccessors := by rw [X'.admits.platform]
      have hWT : s.WarmedH T'.vm := X'.warmed
      have hcc : s.vm.findClass Xn = some cell.cls := by rw [← hWT.alike.findClass]; exact x4
      obtain ⟨vm', v1, v2⟩ := zm_search (e := e) (f := F0 m pc ls (rest.map (zm_sh N.ad))) (a := N.ad x.2) N hpl cx5 cx4 x3 hcc y rs y4 y5 pre (((T'.setTop (F0 m pc ls (rest.map (zm_sh N.ad)))).pushFrame (.throwing (N.ad x.2)))) (by rw [Stand.throwing_vm]; exact hWT) (by rw [Stand.throwing_heap]; exact x2) y3
      obtain ⟨t, a1, a2⟩ := hJ' p e R s m args below meth c sl0 Cx T'.heap (locs ++ L) ls (cells + k) (slots + n) b3 hl b4 b5 b6 (T'.setVm vm') rfl (X'.noted v1)
      refine ⟨t, hstep _ (fun acts => (hst acts).trans ?_), a2⟩
      refine zm_caught (c := c) (vm' := vm') (pc := h) X'.here ?_ a1
      intro Q E dd acts
      rw [W.findHandler_eq (meth := meth) (code := c) (by rw [Stand.throwing_vm]; exact X'.method') X'.code, cx9, y2, v2, y6]
set_option maxHeartbeats 1000000 in
theorem zm_J_S (hdg : decode (zm_by mi) pc = .ok (.invokestatic idx, 3)) (hok : zm_okS mi idx mj av.length) (hw : (rest.map fun v => v.category).sum + (zm_nl mj + 11) ≤ zm_w) (hfit : (lg_sl av).length ≤ zm_nl mj) (hcm : G.1.length ≤ zm_C) (hsm : G.2 ≤ zm_S)
    (hJ : zm_J N d mj 0 (lv_args 0 av) [] G Q1) (kr : ∀ v G', Q1 (.inl v) G' → zm_J N (d + 1) mi (pc + 3) lv (v.toList ++ rest) G' Q) (kt : ∀ x G', Q1 (.inr x) G' → (zm_out mi pc ∧ Q (.inr x) G') ∨ ∃ h, zm_cat mi pc x.1 h ∧ zm_J N (d + 1) mi h lv [.ref x.2] G' Q) : zm_J N (d + 1) mi pc lv (av.reverse ++ rest) G Q := by
  intro p e R s m args below meth c sl0 Cx H locs ls cells slots hR hl hL hc hs T hT X
  subst hT
  rw [List.map_append, List.map_reverse]
  obtain ⟨cx1, cx2, cx3, cx4, cx5, cx6, cx7, cx8, cx9, cx10, cx11, cx12, cx13⟩ := id Cx
  obtain ⟨⟨hokm, hokl, hy, hn⟩, hst, hini⟩ := hok
  obtain ⟨mk, methM, cM, hnamed, hmethM, -, -, -, -, -, -, hsigM⟩ := zm_okm_spec N cx5 hokm
  have hstatic : methM.isStatic = true := Cond.static_spec hnamed hmethM (zm_wd N cx5 hst rfl args)
  obtain ⟨kP, hkP, -⟩ := className_of_methodNamed hnamed
  have hinitP : kP.init = .initialized := Cond.initialized_spec (findClass_of_methodNamed hnamed) hkP (zm_wd N cx5 hini rfl args)
  have hlen : (av.map (zm_sh N.ad)).length = _ := (List.length_map ..).trans (zm_npar hn hsigM)
  have hx : ∃ vm₁, Stand p N.l e R s m args below meth c (T.setVm vm₁) locs cells slots ∧ ∀ target, (∀ acts, Steps p.tables e below (doInvoke e ((T.setVm vm₁).setTop { F0 m pc ls ((av.map (zm_sh N.ad)).reverse ++ rest.map (zm_sh N.ad)) with stack := rest.map (zm_sh N.ad) }) acts mk (av.map (zm_sh N.ad)).toArray).1 target) → Steps p.tables e below (T.setTop (F0 m pc ls ((av.map (zm_sh N.ad)).reverse ++ rest.map (zm_sh N.ad)))) target := by
    rcases hokl with h | ⟨host, h⟩
    · exact X.invokestatic cx1 cx4 (zm_wd N cx5 h rfl args) hnamed hmethM hstatic hkP hinitP hy (g := F0 m pc ls ((av.map (zm_sh N.ad)).reverse ++ rest.map (zm_sh N.ad))) rfl hlen rfl (by rw [cx2]; exact hdg)
    · exact X.invokestaticNest cx1 cx4 (zm_wdM N cx5 h args) hnamed hmethM hstatic hkP hinitP hy (g := F0 m pc ls ((av.map (zm_sh N.ad)).reverse ++ rest.map (zm_sh N.ad))) rfl hlen rfl (by rw [cx2]; exact hdg)
  obtain ⟨vm₁, X₁, hstep⟩ := hx
  exact zm_after Cx hl hdg hw hfit hcm hsm hokm hJ kr kt hL hc hs X₁ hR hnamed hstep
set_option maxHeartbeats 1000000 in
theorem zm_J_I {a : Nat} (hdg : decode (zm_by mi) pc = .ok (.invokespecial idx, 3)) (hok : zm_okI mi idx mj av.length) (hw : (rest.map fun v => v.category).sum + (zm_nl mj + 11) ≤ zm_w) (hfit : (lg_sl (.ref a :: av)).length ≤ zm_nl mj) (hcm : G.1.length ≤ zm_C) (hsm : G.2 ≤ zm_S)
    (hJ : zm_J N d mj 0 (lv_args 0 (.ref a :: av)) [] G Q1) (kr : ∀ v G', Q1 (.inl v) G' → zm_J N (d + 1) mi (pc + 3) lv (v.toList ++ rest) G' Q) (kt : ∀ x G', Q1 (.inr x) G' → (zm_out mi pc ∧ Q (.inr x) G') ∨ ∃ h, zm_cat mi pc x.1 h ∧ zm_J N (d + 1) mi h lv [.ref x.2] G' Q) : zm_J N (d + 1) mi pc lv (av.reverse ++ .ref a :: rest) G Q := by
  intro p e R s m args below meth c sl0 Cx H locs ls cells slots hR hl hL hc hs T hT X
  subst hT
  rw [List.map_append, List.map_reverse, List.map_cons]
  show ∃ t, Steps p.tables e below (T.setTop (F0 m pc ls ((av.map (zm_sh N.ad)).reverse ++ .ref (N.ad a) :: rest.map (zm_sh N.ad)))) t ∧ zm_End N s sl0 below Q t
  obtain ⟨cx1, cx2, cx3, cx4, cx5, cx6, cx7, cx8, cx9, cx10, cx11, cx12, cx13⟩ := id Cx
  obtain ⟨⟨hokm, hokl, hy, hn⟩, hinst, hname, hcode⟩ := hok
  have hpl : e.platform.magicAccessors = ({} : Platform).magicAccessors := by rw [X.admits.platform]
  have hlen : ∀ sig, parseMethodDescriptor (zm_mn mj).desc = some sig → (av.map (zm_sh N.ad)).length = sig.parameters.length := fun sg h => (List.length_map ..).trans (zm_npar hn h)
  have hx : ∃ mk vm₁, s.methodNamed? (zm_mn mj) = some mk ∧ s.WarmedH vm₁ ∧ ∀ target, (∀ acts, Steps p.tables e below (doInvoke e ((T.setVm vm₁).setTop { F0 m pc ls ((av.map (zm_sh N.ad)).reverse ++ .ref (N.ad a) :: rest.map (zm_sh N.ad)) with stack := rest.map (zm_sh N.ad) }) acts mk (Value.ref (N.ad a) :: av.map (zm_sh N.ad)).toArray).1 target) → Steps p.tables e below (T.setTop (F0 m pc ls ((av.map (zm_sh N.ad)).reverse ++ .ref (N.ad a) :: rest.map (zm_sh N.ad)))) target := by
    rcases hokl with h | ⟨host, h⟩
    · obtain ⟨mk, methM, cM, kP, vm₁, hnamed, hmethM, hcodeM, -, hlocalsM, -, hkP, -, hW₁, hstep₁⟩ := Steps.initColdArgs (e := e) X.here cx1 X.warmed hpl cx4 hname hy (zm_wd N cx5 h rfl args) (zm_wd N cx5 hinst rfl args) (zm_wd N cx5 hcode rfl args) (f := F0 m pc ls ((av.map (zm_sh N.ad)).reverse ++ .ref (N.ad a) :: rest.map (zm_sh N.ad))) rfl hlen rfl (by rw [cx2]; exact hdg)
      exact ⟨mk, vm₁, hnamed, hW₁, hstep₁⟩
    · obtain ⟨mk, methM, cM, kP, vm₁, hnamed, hmethM, hcodeM, -, hlocalsM, -, hkP, -, hW₁, hstep₁⟩ := Steps.initColdArgsNest (e := e) X.here cx1 X.warmed hpl cx4 hname hy (zm_wdM N cx5 h args) (zm_wd N cx5 hinst rfl args) (zm_wd N cx5 hcode rfl args) (f := F0 m pc ls ((av.map (zm_sh N.ad)).reverse ++ .ref (N.ad a) :: rest.map (zm_sh N.ad))) rfl hlen rfl (by rw [cx2]; exact hdg)
      exact ⟨mk, vm₁, hnamed, hW₁, hstep₁⟩
  obtain ⟨mk, vm₁, hnamed, hW₁, hstep⟩ := hx
  exact zm_after (av := .ref a :: av) Cx hl hdg hw hfit hcm hsm hokm hJ kr kt hL hc hs (X.noted hW₁) hR hnamed hstep
set_option maxHeartbeats 1000000 in
theorem zm_J_V {a x : Nat} {fs : List Value} (hdg : decode (zm_by mi) pc = .ok (.invokevirtual idx, 3)) (hok : zm_okV mi idx mj av.length x) (ha : G.1[a]? = some (.inr (x, fs))) (hw : (rest.map fun v => v.category).sum + (zm_nl mj + 11) ≤ zm_w) (hfit : (lg_sl (.ref a :: av)).length ≤ zm_nl mj) (hcm : G.1.length ≤ zm_C) (hsm : G.2 ≤ zm_S)
    (hJ : zm_J N d mj 0 (lv_args 0 (.ref a :: av)) [] G Q1) (kr : ∀ v G', Q1 (.inl v) G' → zm_J N (d + 1) mi (pc + 3) lv (v.toList ++ rest) G' Q) (kt : ∀ x G', Q1 (.inr x) G' → (zm_out mi pc ∧ Q (.inr x) G') ∨ ∃ h, zm_cat mi pc x.1 h ∧ zm_J N (d + 1) mi h lv [.ref x.2] G' Q) : zm_J N (d + 1) mi pc lv (av.reverse ++ .ref a :: rest) G Q := by
  intro p e R s m args below meth c sl0 Cx H locs ls cells slots hR hl hL hc hs T hT X
  subst hT
  rw [List.map_append, List.map_reverse, List.map_cons]
  show ∃ t, Steps p.tables e below (T.setTop (F0 m pc ls ((av.map (zm_sh N.ad)).reverse ++ .ref (N.ad a) :: rest.map (zm_sh N.ad)))) t ∧ zm_End N s sl0 below Q t
  obtain ⟨cx1, cx2, cx3, cx4, cx5, cx6, cx7, cx8, cx9, cx10, cx11, cx12, cx13⟩ := id Cx
  obtain ⟨⟨hokm, hokl, hy, hn⟩, hinst, C, Tb, kn, hcl, hsel⟩ := hok
  obtain ⟨mk, methM, hnamed, hmethM, hstM, habM⟩ := Cond.instanceMethod_spec (zm_wd N cx5 hinst rfl args)
  obtain ⟨mk', methM', cM, hnamed', hmethM', -, -, -, -, -, -, hsigM⟩ := zm_okm_spec N cx5 hokm
  cases Option.some.inj (hnamed.symm.trans hnamed')
  cases Option.some.inj (hmethM.symm.trans hmethM')
  obtain ⟨c2, r2, m2, q1, q2, q3, q4, kP, hkP, hkPi⟩ := Cond.selects_spec (zm_wd N cx5 hsel rfl args)
  cases Option.some.inj ((State.methodFound?_of_named hnamed hy).symm.trans q2)
  cases Option.some.inj (hnamed.symm.trans q3)
  obtain ⟨r', h7, cell, g1, g2, g3, g4⟩ := hR.2.2.1 a _ ha (List.getElem?_eq_some_iff.mp hcl).1
  have hr : r' = (C, Tb, kn) := Option.some.inj (h7.symm.trans hcl)
  subst hr
  have hfc := ((zm_kn N cx5).1 x _ hcl).2.1
  have hcc : c2 = cell.cls := by rw [g2]; exact Option.some.inj (q1.symm.trans hfc)
  subst hcc
  have hselP : selectMethod e.platform s.vm cell.cls mk = .method mk := by rw [Launch.admits_selectMethod X.admits]; exact q4
  have hlen : (av.map (zm_sh N.ad)).length = _ := (List.length_map ..).trans (zm_npar hn hsigM)
  have hx : ∃ vm₁, Stand p N.l e R s m args below meth c (T.setVm vm₁) locs cells slots ∧ ∀ target, (∀ acts, Steps p.tables e below (doInvoke e ((T.setVm vm₁).setTop { F0 m pc ls ((av.map (zm_sh N.ad)).reverse ++ .ref (N.ad a) :: rest.map (zm_sh N.ad)) with stack := rest.map (zm_sh N.ad) }) acts mk (Value.ref (N.ad a) :: av.map (zm_sh N.ad)).toArray).1 target) → Steps p.tables e below (T.setTop (F0 m pc ls ((av.map (zm_sh N.ad)).reverse ++ .ref (N.ad a) :: rest.map (zm_sh N.ad)))) target := by
    rcases hokl with h | ⟨host, h⟩
    · exact X.invokevirtual cx1 cx4 (zm_wd N cx5 h rfl args) hnamed hmethM hstM hkP hkPi hy g1 (fun z h => by rw [g3] at h; cases h) hselP hmethM habM hkP hkPi (g := F0 m pc ls ((av.map (zm_sh N.ad)).reverse ++ .ref (N.ad a) :: rest.map (zm_sh N.ad))) rfl hlen rfl (by rw [cx2]; exact hdg)
    · exact X.invokevirtualNest cx1 cx4 (zm_wdM N cx5 h args) hnamed hmethM hstM hkP hkPi hy g1 (fun z h => by rw [g3] at h; cases h) hselP hmethM habM hkP hkPi (g := F0 m pc ls ((av.map (zm_sh N.ad)).reverse ++ .ref (N.ad a) :: rest.map (zm_sh N.ad))) rfl hlen rfl (by rw [cx2]; exact hdg)
  obtain ⟨vm₁, X₁, hstep⟩ := hx
  exact zm_after (av := .ref a :: av) Cx hl hdg hw hfit hcm hsm hokm hJ kr kt hL hc hs X₁ hR hnamed hstep
end ZI
end
section
/-! ENDS: returns and throws -/
section ZE
variable {N : zm_N} {d mi pc : Nat} {lv : zm_L} {G : zm_H} {Q : zm_O → zm_H → Prop}
theorem zm_J_iret {v : Int32} {ty : FieldType} (hdg : decode (zm_by mi) pc = .ok (.ireturn, 1)) (hr : zm_rt mi = some ty) (hn : narrow ty (.int v) = .int v) (hq : Q (.inl (some (.int v))) G) : zm_J N d mi pc lv [.int v] G Q := by
  intro p e R s m args below meth c sl0 Cx H locs ls cells slots hR hl hL hc hs
  obtain ⟨cx1, cx2, cx3, cx4, cx5, cx6, cx7, cx8, cx9, cx10, cx11, cx12, cx13⟩ := id Cx
  refine zm_Wmono ?_ (W.zret (Qc := fun _ _ o t => o = .returned (some (.int v)) ∧ t.heap = H) (free := fun q => N.b ≤ q) cx1 cx2 (by rw [cx7]; exact hr) hn (fun t ht hw => ⟨rfl, ht⟩) hL hdg cx6)
  intro t ⟨o, h1, h2, ⟨h3, h4⟩, L, ⟨h5, h6, h7⟩, h8⟩
  exact ⟨.inl (some (.int v)), G, o, L, cells, slots, h1, h2, h3, hq, by rw [h4]; exact hR, h6, h7, h8, by rw [h4]; exact hc, hs⟩
theorem zm_J_vret (hdg : decode (zm_by mi) pc = .ok (.return_, 1)) (hr : zm_rt mi = none) (hq : Q (.inl none) G) : zm_J N d mi pc lv [] G Q := by
  intro p e R s m args below meth c sl0 Cx H locs ls cells slots hR hl hL hc hs
  obtain ⟨cx1, cx2, cx3, cx4, cx5, cx6, cx7, cx8, cx9, cx10, cx11, cx12, cx13⟩ := id Cx
  refine zm_Wmono ?_ (W.vret (Qc := fun _ _ o t => o = .returned none ∧ t.heap = H) (free := fun q => N.b ≤ q) cx1 cx2 (by rw [cx7]; exact hr) (fun t ht hw => ⟨rfl, ht⟩) hL hdg cx6)
  intro t ⟨o, h1, h2, ⟨h3, h4⟩, L, ⟨h5, h6, h7⟩, h8⟩
  exact ⟨.inl none, G, o, L, cells, slots, h1, h2, h3, hq, by rw [h4]; exact hR, h6, h7, h8, by rw [h4]; exact hc, hs⟩
theorem zm_J_aret {v : Value} {ty : FieldType} (hdg : decode (zm_by mi) pc = .ok (.areturn, 1)) (hr : zm_rt mi = some ty) (hty : ty.isReference = true) (hv : zm_isR v = true) (hq : Q (.inl (some v)) G) : zm_J N d mi pc lv [v] G Q := by
  intro p e R s m args below meth c sl0 Cx H locs ls cells slots hR hl hL hc hs
  obtain ⟨cx1, cx2, cx3, cx4, cx5, cx6, cx7, cx8, cx9, cx10, cx11, cx12, cx13⟩ := id Cx
  have hrt : (∃ n, ty = .object n) ∨ ∃ t, ty = .array t := by
    cases ty with
    | object n => exact Or.inl ⟨n, rfl⟩
    | array t => exact Or.inr ⟨t, rfl⟩
    | _ => cases hty
  have hv' : zm_sh N.ad v = .null ∨ ∃ a, zm_sh N.ad v = .ref a := by
    obtain ⟨r, rfl⟩ := zm_isR_of hv
    cases r with
    | none => exact Or.inl rfl
    | some x => exact Or.inr ⟨_, rfl⟩
  refine zm_Wmono ?_ (W.aret (Qc := fun _ _ o t => o = .returned (some (zm_sh N.ad v)) ∧ t.heap = H) (free := fun q => N.b ≤ q) cx1 cx2 (by rw [cx7]; exact hr) hrt hv' (fun t ht hw => ⟨rfl, ht⟩) hL hdg cx6)
  intro t ⟨o, h1, h2, ⟨h3, h4⟩, L, ⟨h5, h6, h7⟩, h8⟩
  exact ⟨.inl (some v), G, o, L, cells, slots, h1, h2, h3, hq, by rw [h4]; exact hR, h6, h7, h8, by rw [h4]; exact hc, hs⟩
end ZE
theorem zm_rebase {p : Program} {l : Launch} {e : Env} {R : Room} {s : State} {m : MethodId} {args : Array Value} {below : List Frame} {meth : Method} {c : Code} {T : State} {locs : List Loc} {cells slots : Nat} (X : Stand p l e R s m args below meth c T locs cells slots) (hc : cells ≤ R.cells) (hs : slots ≤ R.slots) :
    Stand p l e { R with cells := R.cells - cells, slots := R.slots - slots } (T.setFrames (.invoking m args :: below)) m args below meth c T [] 0 0 := by
  obtain ⟨g₀, hfr⟩ := X.frames_eq
  have hcur : T.cur < T.threads.size := State.cur_lt_of_frames hfr
  have hf : (T.setFrames (.invoking m args :: below)).frames = .invoking m args :: below := State.frames_setFrames _ hcur
  have hm : (T.setFrames (.invoking m args :: below)).vm.method? m = some meth := X.method'
  have hli : (T.setFrames (.invoking m args :: below)).localsInUse = s.localsInUse := by
    rw [State.localsInUse_invoking hf hm X.code, State.localsInUse_invoking X.frames X.method X.code]
  have hroom := X.room
  have hz := X.heapSize
  have hu := X.used
  simp only [State.hasRoom, Bool.and_eq_true, decide_eq_true_eq] at hroom
  obtain ⟨⟨⟨⟨r1, r2, r3, r4, r5, r6⟩, r7⟩, r8⟩, r9⟩ := hroom
  rw [X.frames] at r2 r3
  refine ⟨X.admits, X.cas, X.clock, hf, ?_, ?_, hm, X.code, X.here, X.tail, State.WarmedH.refl _, by rw [State.stackLimits_setFrames], by rw [State.stackBytes_setFrames], ?_⟩
  · simp only [State.hasRoom, Bool.and_eq_true, decide_eq_true_eq]
    rw [hli, hf]
    refine ⟨⟨⟨⟨r1, r2, by rw [State.stackLimits_setFrames, X.limits]; exact r3, r4, by rw [State.stackLimits_setFrames, X.limits]; exact r5, by rw [State.stackBytes_setFrames, X.bytes]; exact r6⟩, ?_⟩, ?_⟩, X.book⟩
    · show T.heap.size + (R.cells - cells) ≤ _
      omega
    · show T.slotsUsed + (R.slots - slots) ≤ _
      omega
  · have hh := X.hears
    have ha := X.warmed.alike
    have hvm : (T.setFrames (.invoking m args :: below)).vm = T.vm := rfl
    unfold State.hears at hh ⊢
    simp only [State.code?_eq, hvm, ha.method?] at hh ⊢
    exact hh
  · obtain ⟨th, hth, -⟩ := State.frames_cons hfr
    have hcur' : (T.setFrames (.invoking m args :: below)).cur < (T.setFrames (.invoking m args :: below)).threads.size := State.cur_lt_of_frames hf
    obtain ⟨th', hth', -⟩ := State.frames_cons hf
    have h := (State.sameButNew.refl (T.setFrames (.invoking m args :: below)) hth').setFrames T.frames hcur'
    rw [State.setFrames_setFrames, State.setFrames_self hth] at h
    exact h
end
section
/-! THE STEPS IN ONE FUNCTION -/
def zm_room (G : zm_H) (n : Nat) : Bool := decide (G.1.length + 1 ≤ zm_C) && decide (G.2 + n ≤ zm_S)
/-- instructions that touch the heap or the tables -/
def zm_hp (q : zm_I) (st : List Value) (G : zm_H) : Option (List Value × zm_H) := match q.1 with
  | .ldc _ => some (.int (Int32.ofInt q.2.2.2) :: st, G)
  | .ldc2_w _ => some (.long (Int64.ofInt q.2.2.2) :: st, G)
  | .getstatic _ => some (.ref q.2.1 :: st, G)
  | .getfield _ => match st with
    | .ref a :: r => match G.1[a]? with
      | some (.inr x) => if x.1 = q.2.1 then match x.2[q.2.2.1]? with
          | some v => some (v :: r, G)
          | none => none
        else none
      | _ => none
    | _ => none
  | .putfield _ => match st with
    | v :: .ref a :: r => match G.1[a]? with
      | some (.inr x) => if x.1 = q.2.1 ∧ zm_no ≤ a ∧ q.2.2.1 < x.2.length ∧ zm_fit (zm_fty x.1 q.2.2.1) v = true then some (r, zm_set G a (.inr (x.1, x.2.set q.2.2.1 v))) else none
      | _ => none
    | _ => none
  | .new _ => if zm_room G (zm_fl q.2.1).length = true then some (.ref G.1.length :: st, zm_new G (.inr (q.2.1, (zm_fl q.2.1).map defaultValue)) (zm_fl q.2.1).length) else none
  | .newarray _ => match st with
    | .int n :: r => match zm_aty[q.2.1]? with
      | some ty => match zm_dflt n.toNatClampNeg ty with
        | some a0 => if 0 ≤ n ∧ n.toNatClampNeg * 8 ≤ 536870912 ∧ zm_room G n.toNatClampNeg = true then some (.ref G.1.length :: r, zm_new G (.inl (q.2.1, a0)) n.toNatClampNeg) else none
        | none => none
      | none => none
    | _ => none
  | .anewarray _ => match st with
    | .int n :: r => match zm_aty[q.2.1]? with
      | some (.object C) => match zm_dflt n.toNatClampNeg (.object C) with
        | some a0 => if 0 ≤ n ∧ n.toNatClampNeg * 8 ≤ 536870912 ∧ zm_room G n.toNatClampNeg = true then some (.ref G.1.length :: r, zm_new G (.inl (q.2.1, a0)) n.toNatClampNeg) else none
        | none => none
      | _ => none
    | _ => none
  | .arraylength => match st with
    | .ref a :: r => match G.1[a]? with
      | some (.inl x) => some (.int (Int32.ofNat x.2.1) :: r, G)
      | _ => none
    | _ => none
  | .checkcast _ => match st with
    | .null :: r => some (.null :: r, G)
    | .ref a :: r => match G.1[a]? with
      | some (.inr x) => if x.1 = q.2.1 then some (.ref a :: r, G) else none
      | _ => none
    | _ => none
  | i => match st with
    | .int j :: .ref a :: r => match G.1[a]? with
      | some (.inl x) => match zm_aty[x.1]? with
        | some ty => if zm_aldt i ty = true ∧ 0 ≤ j ∧ j.toNatClampNeg < x.2.1 then some (zm_el x.2 j.toNatClampNeg :: r, G) else none
        | none => none
      | _ => none
    | _ => none
/-- may it be written into an array of the kind t -/
def zm_sto (t : Nat) (v : Value) (G : zm_H) : Bool := match v with
  | .ref b => match G.1[b]? with
    | some (.inr y) => zm_sub.any (fun q => q.1 == t && q.2 == y.1)
    | _ => false
  | _ => true
/-- array stores -/
def zm_hs (q : zm_I) (st : List Value) (G : zm_H) : Option (List Value × zm_H) := match st with
  | v :: .int j :: .ref a :: r => match G.1[a]? with
    | some (.inl x) => match zm_aty[x.1]? with
      | some ty => match zm_astv q.1 ty v with
        | some v' => match zm_aset x.2 j.toNatClampNeg v' with
          | some x' => if zm_no ≤ a ∧ 0 ≤ j ∧ j.toNatClampNeg < x.2.1 ∧ zm_sto x.1 v G = true then some (r, zm_set G a (.inl (x.1, x'))) else none
          | none => none
        | none => none
      | none => none
    | _ => none
  | _ => none
/-- the groups -/
def zm_grp (i : Instr) : Nat := match i with
  | .iload_n _ => 1
  | .iload _ => 1
  | .lload_n _ => 1
  | .lload _ => 1
  | .aload_n _ => 1
  | .aload _ => 1
  | .istore_n _ => 2
  | .istore _ => 2
  | .lstore_n _ => 2
  | .lstore _ => 2
  | .astore_n _ => 2
  | .astore _ => 2
  | .iinc _ _ => 3
  | .goto _ => 4
  | .ifCond _ _ => 4
  | .if_icmp _ _ => 4
  | .if_acmp _ _ => 4
  | .ifnull _ => 4
  | .ifnonnull _ => 4
  | .tableswitch _ _ _ _ => 4
  | .lookupswitch _ _ => 4
  | .ldc _ => 5
  | .ldc2_w _ => 5
  | .getstatic _ => 5
  | .getfield _ => 5
  | .putfield _ => 5
  | .new _ => 5
  | .newarray _ => 5
  | .anewarray _ => 5
  | .arraylength => 5
  | .checkcast _ => 5
  | .iaload => 5
  | .laload => 5
  | .caload => 5
  | .baload => 5
  | .aaload => 5
  | .iastore => 6
  | .lastore => 6
  | .castore => 6
  | .bastore => 6
  | .aastore => 6
  | _ => 0
abbrev zm_S4 : Type := Nat × zm_L × List Value × zm_H
def zm_stepq (mi : Nat) (q : zm_I) (s : zm_S4) : Option zm_S4 := match zm_grp q.1 with
  | 0 => match zm_pure q.1 s.2.2.1 with
    | some st => some (s.1 + zm_len q.1, s.2.1, st, s.2.2.2)
    | none => none
  | 1 => match zm_load q.1 s.2.1 with
    | some v => some (s.1 + zm_len q.1, s.2.1, v :: s.2.2.1, s.2.2.2)
    | none => none
  | 2 => match zm_stor (zm_nl mi) q.1 s.2.1 s.2.2.1 with
    | some x => some (s.1 + zm_len q.1, x.1, x.2, s.2.2.2)
    | none => none
  | 3 => match zm_inc (zm_nl mi) q.1 s.2.1 with
    | some x => some (s.1 + zm_len q.1, x, s.2.2.1, s.2.2.2)
    | none => none
  | 4 => match zm_br zm_no q.1 s.1 s.2.2.1 with
    | some x => some (x.1, s.2.1, x.2, s.2.2.2)
    | none => none
  | 5 => match zm_hp q s.2.2.1 s.2.2.2 with
    | some x => some (s.1 + zm_len q.1, s.2.1, x.1, x.2)
    | none => none
  | _ => match zm_hs q s.2.2.1 s.2.2.2 with
    | some x => some (s.1 + zm_len q.1, s.2.1, x.1, x.2)
    | none => none
def zm_step (mi : Nat) (s : zm_S4) : Option zm_S4 := match zm_cd mi s.1 with
  | some q => zm_stepq mi q s
  | none => none
def zm_run (mi : Nat) : Nat → zm_S4 → Option zm_S4
  | 0, s => some s
  | n + 1, s => match zm_step mi s with
    | some s' => zm_run mi n s'
    | none => none
/-- the length as the table has it -/
def zm_ln (q : zm_I) : Nat := match q.1 with
  | .tableswitch _ _ _ _ => q.2.1
  | .lookupswitch _ _ => q.2.1
  | i => zm_len i
/-- the words of an instruction -/
def zm_okq (mi : Nat) (q : zm_I) : Prop := match q.1 with
  | .ldc idx => Cond.constant (zm_mn mi).cls idx (Int32.ofInt q.2.2.2) ∈ zm_tb
  | .ldc2_w idx => Cond.constantLong (zm_mn mi).cls idx (Int64.ofInt q.2.2.2) ∈ zm_tb
  | .getstatic idx => ∃ o ∈ zm_os, o.1 = q.2.1 ∧ Cond.fieldLink (zm_mn mi).cls idx o.2.1 o.2.2.1 o.2.2.2 ∈ zm_tb
  | .getfield idx => zm_okf mi idx q.2.1 q.2.2.1
  | .putfield idx => zm_okf mi idx q.2.1 q.2.2.1 ∧ zm_okw mi idx q.2.1 q.2.2.1
  | .new idx => zm_okn mi idx q.2.1
  | .newarray at_ => ∃ ty, zm_aty[q.2.1]? = some ty ∧ newarray.typeOf at_ = ty ∧ Cond.arrayClass ty ∈ zm_tb
  | .anewarray idx => ∃ C, zm_aty[q.2.1]? = some (.object C) ∧ Cond.arrayOver (.object C) ∈ zm_tb ∧ Cond.classLink (zm_mn mi).cls idx C ∈ zm_tb
  | .checkcast idx => ∃ nm C T n, Cond.classLink (zm_mn mi).cls idx nm ∈ zm_tb ∧ zm_cl[q.2.1]? = some (C, T, n) ∧ (C = nm ∨ Cond.castable C nm ∈ zm_tb)
  | _ => True
def zm_oke (mi pc : Nat) (q : zm_I) : Prop := decode (zm_by mi) pc = .ok (q.1, zm_ln q) ∧ zm_okq mi q
/-- the tables' own rows: every instruction is as it stands in the code -/
def zm_okt : Prop := (∀ mi pc q, zm_cd mi pc = some q → zm_oke mi pc q) ∧ ∀ q ∈ zm_sub, ∀ C, zm_aty[q.1]? = some (.object C) → zm_oka q.2 C
section ZT
variable {N : zm_N} {d mi : Nat} {Q : zm_O → zm_H → Prop}
theorem zm_hp_ok (hT : zm_okt) {q : zm_I} {pc : Nat} {lv : zm_L} {st st' : List Value} {G G' : zm_H} (he : zm_oke mi pc q) (hg : zm_grp q.1 = 5) (h : zm_hp q st G = some (st', G')) (k : zm_J N d mi (pc + zm_len q.1) lv st' G' Q) : zm_J N d mi pc lv st G Q := by
  obtain ⟨i, qa, qb, qn⟩ := q
  obtain ⟨hdg, hok⟩ := he
  intro p e R s m args below meth c sl0 Cx H locs ls cells slots hR hl hL hc hs
  have k0 := k p e R s m args below meth c sl0 Cx
  obtain ⟨cx1, cx2, cx3, cx4, cx5, cx6, cx7, cx8, cx9, cx10, cx11, cx12, cx13⟩ := id Cx
  unfold zm_hp at h
  simp only at h
  split at h
  · rename_i idx
    cases h
    exact lv_ldc cx1 cx2 cx4 (zm_wd N cx5 hok rfl args) hdg (k0 H locs ls cells slots hR hl hL hc hs)
  · rename_i idx
    cases h
    exact lv_ldc2 cx1 cx2 cx4 (zm_wd N cx5 hok rfl args) hdg (k0 H locs ls cells slots hR hl hL hc hs)
  · rename_i idx
    cases h
    obtain ⟨o, o1, o2, o3⟩ := hok
    have o2 : o.1 = qa := o2
    subst o2
    exact zm_gets_ok Cx hR o1 o3 hdg (k0 H locs ls cells slots hR hl hL hc hs)
  · rename_i idx
    split at h
    · split at h
      · rename_i a r x hx
        split at h
        · rename_i hxq
          split at h
          · rename_i v hv
            cases h
            have hxq : x.1 = qa := hxq
            subst hxq
            exact zm_getf_ok Cx hok hR hx hv hdg (k0 H locs ls cells slots hR hl hL hc hs)
          · cases h
        · cases h
      · cases h
    · cases h
  · rename_i idx
    split at h
    · split at h
      · rename_i v a r x hx
        split at h
        · rename_i hxq
          cases h
          obtain ⟨h1, h2, h3, h4⟩ := hxq
          have h1 : x.1 = qa := h1
          subst h1
          exact zm_putf_ok Cx hok.1 hok.2 hR hL hx h2 h3 h4 hdg (fun H' locs' r1 r2 r3 => k0 H' locs' ls cells slots r1 hl r3 (by rw [r2]; exact hc) hs)
        · cases h
      · cases h
    · cases h
  · rename_i idx
    split at h
    · rename_i hr
      cases h
      simp only [zm_room, Bool.and_eq_true, decide_eq_true_eq] at hr
      exact zm_new_ok Cx hok hR hc hs hr.1 hr.2 hdg (fun H' r1 r2 => k0 H' locs ls (cells + 1) (slots + (zm_fl qa).length) r1 hl hL (by omega) (by show sl0 + (slots + (zm_fl qa).length) = G.2 + (zm_fl qa).length; omega))
    · cases h
  · rename_i at_
    obtain ⟨ty, t1, t2, t3⟩ := hok
    split at h
    · split at h
      · rename_i n r _ ty' hty
        cases Option.some.inj (hty.symm.trans t1)
        split at h
        · rename_i a0 ha
          split at h
          · rename_i hr
            cases h
            obtain ⟨h1, h2, h3⟩ := hr
            simp only [zm_room, Bool.and_eq_true, decide_eq_true_eq] at h3
            exact zm_newp_ok Cx hR t1 t2 t3 h1 ha h2 hc hs h3.1 h3.2 hdg (fun H' r1 r2 => k0 H' locs ls (cells + 1) (slots + n.toNatClampNeg) r1 hl hL (by omega) (by show sl0 + (slots + n.toNatClampNeg) = G.2 + n.toNatClampNeg; omega))
          · cases h
        · cases h
      · cases h
    · cases h
  · rename_i idx
    obtain ⟨C, t1, t2, t3⟩ := hok
    split at h
    · split at h
      · rename_i n r _ C' hty
        cases Option.some.inj (hty.symm.trans t1)
        split at h
        · rename_i a0 ha
          split at h
          · rename_i hr
            cases h
            obtain ⟨h1, h2, h3⟩ := hr
            simp only [zm_room, Bool.and_eq_true, decide_eq_true_eq] at h3
            exact zm_newr_ok Cx hR t1 t2 t3 h1 ha h2 hc hs h3.1 h3.2 hdg (fun H' r1 r2 => k0 H' locs ls (cells + 1) (slots + n.toNatClampNeg) r1 hl hL (by omega) (by show sl0 + (slots + n.toNatClampNeg) = G.2 + n.toNatClampNeg; omega))
          · cases h
        · cases h
      · cases h
    · cases h
  · split at h
    · split at h
      · rename_i a r x hx
        cases h
        exact zm_alen_ok Cx hR hx hdg (k0 H locs ls cells slots hR hl hL hc hs)
      · cases h
    · cases h
  · rename_i idx
    obtain ⟨nm, C, T, n, t1, t2, t3⟩ := hok
    split at h
    · cases h
      exact lv_castN cx1 cx2 hdg (k0 H locs ls cells slots hR hl hL hc hs)
    · split at h
      · rename_i a r x hx
        split at h
        · rename_i hxq
          cases h
          have hxq : x.1 = qa := hxq
          subst hxq
          exact zm_cast_ok Cx hR t1 hx t2 t3 hdg (k0 H locs ls cells slots hR hl hL hc hs)
        · cases h
      · cases h
    · cases h
  · split at h
    · split at h
      · rename_i j a r x hx
        split at h
        · rename_i ty hty
          split at h
          · rename_i hr
            cases h
            obtain ⟨h1, h2⟩ := hr
            have hl1 : zm_len i = 1 ∧ zm_ln (i, qa, qb, qn) = 1 := by
              unfold zm_aldt at h1
              split at h1 <;> first | exact ⟨rfl, rfl⟩ | cases h1
            have k1 := k0 H locs ls cells slots hR hl hL hc hs
            have hdg : decode (zm_by mi) pc = .ok (i, 1) := by rw [← hl1.2]; exact hdg
            have hz : pc + zm_len i = pc + 1 := by rw [hl1.1]
            rw [show pc + zm_len (i, qa, qb, qn).1 = pc + 1 from hz] at k1
            exact zm_ald_ok Cx hR hx hty h1 h2 hdg k1
          · cases h
        · cases h
      · cases h
    · cases h
theorem zm_hs_ok (hT : zm_okt) {q : zm_I} {pc : Nat} {lv : zm_L} {st st' : List Value} {G G' : zm_H} (he : zm_oke mi pc q) (h : zm_hs q st G = some (st', G')) (k : zm_J N d mi (pc + zm_len q.1) lv st' G' Q) : zm_J N d mi pc lv st G Q := by
  obtain ⟨i, qa, qb, qn⟩ := q
  obtain ⟨hdg, hok⟩ := he
  intro p e R s m args below meth c sl0 Cx H locs ls cells slots hR hl hL hc hs
  have k0 := k p e R s m args below meth c sl0 Cx
  obtain ⟨cx1, cx2, cx3, cx4, cx5, cx6, cx7, cx8, cx9, cx10, cx11, cx12, cx13⟩ := id Cx
  unfold zm_hs at h
  simp only at h
  split at h
  · split at h
    · rename_i v j a r x hx
      split at h
      · rename_i ty hty
        split at h
        · rename_i v' hv'
          split at h
          · rename_i x' hx'
            split at h
            · rename_i hr
              cases h
              obtain ⟨h1, h2, h3, h4⟩ := hr
              have hl1 : zm_len i = 1 ∧ zm_ln (i, qa, qb, qn) = 1 := by
                unfold zm_astv at hv'
                split at hv' <;> first | exact ⟨rfl, rfl⟩ | cases hv'
              have hdg : decode (zm_by mi) pc = .ok (i, 1) := by rw [← hl1.2]; exact hdg
              have hz : pc + zm_len i = pc + 1 := by rw [hl1.1]
              rw [show pc + zm_len (i, qa, qb, qn).1 = pc + 1 from hz] at k0
              refine zm_ast_ok Cx hR hL hx h1 hty ⟨h2, h3⟩ hv' ?_ hx' hdg (fun H' locs' r1 r2 r3 => k0 H' locs' ls cells slots r1 hl r3 (by rw [r2]; exact hc) hs)
              intro b C hC hb
              subst hb
              unfold zm_sto at h4
              simp only at h4
              split at h4
              · rename_i y hy
                obtain ⟨w, hw, hw2⟩ := List.any_eq_true.mp h4
                simp only [Bool.and_eq_true, beq_iff_eq] at hw2
                refine ⟨y.1, y.2, hy, ?_⟩
                have := hT.2 w hw C (by rw [hw2.1, hty, hC])
                rw [hw2.2] at this
                exact this
              · cases h4
            · cases h
          · cases h
        · cases h
      · cases h
    · cases h
  · cases h
set_option maxHeartbeats 1000000 in
theorem zm_stepq_ok (hT : zm_okt) {q : zm_I} {pc : Nat} {lv : zm_L} {st : List Value} {G : zm_H} {s' : zm_S4} (he : zm_oke mi pc q) (h : zm_stepq mi q (pc, lv, st, G) = some s') (k : zm_J N d mi s'.1 s'.2.1 s'.2.2.1 s'.2.2.2 Q) : zm_J N d mi pc lv st G Q := by
  unfold zm_stepq at h
  simp only at h
  have hln : zm_grp q.1 ≠ 4 → zm_ln q = zm_len q.1 := by
    intro hg
    unfold zm_ln
    split
    · rename_i hi; rw [hi] at hg; exact absurd rfl hg
    · rename_i hi; rw [hi] at hg; exact absurd rfl hg
    · rfl
  split at h
  · rename_i hg
    have hdg := he.1
    rw [hln (by omega)] at hdg
    split at h
    · rename_i st' hst
      cases h
      intro p e R s m args below meth c sl0 Cx H locs ls cells slots hR hl hL hc hs
      exact zm_pure_ok N.ad Cx.1 Cx.2.1 hst hdg (k p e R s m args below meth c sl0 Cx H locs ls cells slots hR hl hL hc hs)
    · cases h
  · rename_i hg
    have hdg := he.1
    rw [hln (by omega)] at hdg
    split at h
    · rename_i v hst
      cases h
      intro p e R s m args below meth c sl0 Cx H locs ls cells slots hR hl hL hc hs
      exact zm_load_ok N.ad Cx.1 Cx.2.1 hl hst hdg (k p e R s m args below meth c sl0 Cx H locs ls cells slots hR hl hL hc hs)
    · cases h
  · rename_i hg
    have hdg := he.1
    rw [hln (by omega)] at hdg
    split at h
    · rename_i x hst
      cases h
      intro p e R s m args below meth c sl0 Cx H locs ls cells slots hR hl hL hc hs
      exact zm_stor_ok N.ad Cx.1 Cx.2.1 hl hst hdg (fun ls' hl' => k p e R s m args below meth c sl0 Cx H locs ls' cells slots hR hl' hL hc hs)
    · cases h
  · rename_i hg
    have hdg := he.1
    rw [hln (by omega)] at hdg
    split at h
    · rename_i x hst
      cases h
      intro p e R s m args below meth c sl0 Cx H locs ls cells slots hR hl hL hc hs
      exact zm_inc_ok N.ad Cx.1 Cx.2.1 hl hst hdg (fun ls' hl' => k p e R s m args below meth c sl0 Cx H locs ls' cells slots hR hl' hL hc hs)
    · cases h
  · split at h
    · rename_i x hst
      cases h
      intro p e R s m args below meth c sl0 Cx H locs ls cells slots hR hl hL hc hs
      refine zm_br_ok N.ad (zm_ad_inj N) Cx.1 Cx.2.1 hst he.1 ?_ (k p e R s m args below meth c sl0 Cx H locs ls cells slots hR hl hL hc hs)
      intro ho
      unfold zm_ln
      split
      · rename_i hi; rw [hi] at ho; cases ho
      · rename_i hi; rw [hi] at ho; cases ho
      · rfl
    · cases h
  · rename_i hg
    split at h
    · rename_i x hst
      cases h
      exact zm_hp_ok hT he hg hst k
    · cases h
  · split at h
    · rename_i x hst
      cases h
      exact zm_hs_ok hT he hst k
    · cases h
theorem zm_J_run0 (hT : zm_okt) (n : Nat) {pc : Nat} {lv : zm_L} {st : List Value} {G : zm_H} {s' : zm_S4} (h : zm_run mi n (pc, lv, st, G) = some s') (k : zm_J N d mi s'.1 s'.2.1 s'.2.2.1 s'.2.2.2 Q) : zm_J N d mi pc lv st G Q := by
  induction n generalizing pc lv st G with
  | zero =>
    cases h
    exact k
  | succ n ih =>
    unfold zm_run at h
    split at h
    · rename_i s1 hs1
      unfold zm_step at hs1
      split at hs1
      · rename_i q hq
        exact zm_stepq_ok hT (hT.1 mi pc q hq) hs1 (ih h)
      · cases hs1
    · cases h
/-- n steps at once -/
theorem zm_J_run (hT : zm_okt) (n : Nat) {pc pc' : Nat} {lv lv' : zm_L} {st st' : List Value} {G G' : zm_H} (h : zm_run mi n (pc, lv, st, G) = some (pc', lv', st', G')) (k : zm_J N d mi pc' lv' st' G' Q) : zm_J N d mi pc lv st G Q := zm_J_run0 hT n h k
/-- fewer locals, in any order -/
theorem zm_J_lv {pc : Nat} {lv lv' : zm_L} {st : List Value} {G : zm_H} (h : ∀ q ∈ lv', q ∈ lv) (k : zm_J N d mi pc lv' st G Q) : zm_J N d mi pc lv st G Q := by
  intro p e R s m args below meth c sl0 Cx H locs ls cells slots hR hl hL hc hs
  refine k p e R s m args below meth c sl0 Cx H locs ls cells slots hR ⟨hl.1, hl.2.1, fun q hq => ?_⟩ hL hc hs
  obtain ⟨q', hq', rfl⟩ := List.mem_map.mp hq
  exact hl.2.2 _ (List.mem_map.mpr ⟨q', h q' hq', rfl⟩)
/-- fewer frames -/
theorem zm_J_d {d' pc : Nat} {lv : zm_L} {st : List Value} {G : zm_H} (h : d' ≤ d) (k : zm_J N d' mi pc lv st G Q) : zm_J N d mi pc lv st G Q := by
  intro p e R s m args below meth c sl0 Cx H locs ls cells slots hR hl hL hc hs
  obtain ⟨cx1, cx2, cx3, cx4, cx5, cx6, cx7, cx8, cx9, cx10, cx11, cx12, cx13⟩ := Cx
  exact k p e R s m args below meth c sl0 ⟨cx1, cx2, cx3, cx4, cx5, cx6, cx7, cx8, cx9, Nat.le_trans h cx10, Nat.le_trans (Nat.mul_le_mul_left _ h) cx11, cx12, cx13⟩ H locs ls cells slots hR hl hL hc hs
end ZT
end
section
/-! THROWS: 'throw new X(text)' under a launch without traces -/
theorem zm_wdS (N : zm_N) {U : State} (hW : N.s0.WarmedH U.vm) (hH : ∀ q : Nat, q < N.b → U.heap[q]? = N.s0.heap[q]?) {C n d : String} (hw : Cond.isRef (.static C n d) ∈ zm_tb) (a : Array Value) : (Cond.isRef (.static C n d)).before a U = true := by
  obtain ⟨A, hA⟩ := N.2.1
  have h1 : (Cond.isRef (.static C n d)).before A (N.s0.setVm U.vm) = true := Cond.before_shiftedFace (State.Shifted.of_warmed hW) _ rfl (hA _ hw)
  simp only [Cond.before, Cond.holds, Cond.value, Term.eval] at h1 ⊢
  have e1 : (N.s0.setVm U.vm).fieldNamed? C n d true = U.fieldNamed? C n d true := rfl
  rw [e1] at h1
  cases hf : U.fieldNamed? C n d true with
  | none => rw [hf] at h1; simp at h1
  | some q =>
    obtain ⟨c0, k0, slot⟩ := q
    rw [hf] at h1
    simp only [Option.bind_eq_bind, Option.bind_some] at h1 ⊢
    cases hk : k0.statics with
    | none => rw [hk] at h1; simp at h1
    | some a1 =>
      rw [hk] at h1
      simp only [Option.bind_some] at h1 ⊢
      cases hc : N.s0.heap[a1]? with
      | none =>
        have e2 : (N.s0.setVm U.vm).heap[a1]? = none := hc
        rw [e2] at h1; simp at h1
      | some cell =>
        have hlt : a1 < N.b := (Array.getElem?_eq_some_iff.mp hc).1
        have e2 : (N.s0.setVm U.vm).heap[a1]? = some cell := hc
        rw [hH a1 hlt, hc]
        rw [e2] at h1
        exact h1
theorem zm_wdL (N : zm_N) {U : State} (hW : N.s0.WarmedH U.vm) (hH : ∀ q : Nat, q < N.b → U.heap[q]? = N.s0.heap[q]?) {C n d : String} (hw : Cond.laysStatic C n d ∈ zm_tb) (a : Array Value) : (Cond.laysStatic C n d).before a U = true := by
  obtain ⟨A, hA⟩ := N.2.1
  have h1 : (Cond.laysStatic C n d).before A (N.s0.setVm U.vm) = true := Cond.before_shiftedFace (State.Shifted.of_warmed hW) _ rfl (hA _ hw)
  obtain ⟨c, k, i, f, st, cell, g1, g2, g3, g4, g5, g6, g7, g8, g9⟩ := Cond.laysStatic_spec h1
  have hlt : st < N.b := (Array.getElem?_eq_some_iff.mp (show N.s0.heap[st]? = some cell from g5)).1
  show (Cond.laysStatic C n d).holds a U none U [] = true
  exact Cond.laysStatic_of (s := U) g1 g2 g3 g4 (by rw [hH st hlt]; exact g5) g6 g7 g8 g9
theorem zm_wdT (N : zm_N) {U : State} (hW : N.s0.WarmedH U.vm) {w : Cond} (hw : w ∈ zm_tb) (h1 : w.onTables = true) (h2 : w.keepsFace = true) (a : Array Value) : w.before a U = true := by
  obtain ⟨A, hA⟩ := N.2.1
  have h3 : w.before A (N.s0.setVm U.vm) = true := Cond.before_shiftedFace (State.Shifted.of_warmed hW) _ h2 (hA _ hw)
  exact va_tabs h1 (u := N.s0.setVm U.vm) rfl h3
/-- a word that is carried along -/
def zm_gw (w : Cond) : Bool := (w.onTables && w.keepsFace) || match w with
  | .isRef (.static _ _ _) => true
  | .laysStatic _ _ _ => true
  | _ => false
/-- the words of a throw's atoms -/
theorem zm_atoms (N : zm_N) {U : State} (hW : N.s0.WarmedH U.vm) (hH : ∀ q : Nat, q < N.b → U.heap[q]? = N.s0.heap[q]?) {ws : List Cond} (h : ∀ w ∈ ws, w ∈ zm_tb ∧ zm_gw w = true) (a : Array Value) : ∀ w ∈ ws, w.before a U = true := by
  intro w hw
  obtain ⟨h1, h2⟩ := h w hw
  unfold zm_gw at h2
  rcases Bool.or_eq_true_iff.mp h2 with h2 | h2
  · rw [Bool.and_eq_true] at h2
    exact zm_wdT N hW h1 h2.1 h2.2 a
  · split at h2
    · exact zm_wdS N hW hH h1 a
    · exact zm_wdL N hW hH h1 a
    · cases h2
theorem zm_ldcS (N : zm_N) {U : State} (hW : N.s0.WarmedH U.vm) {own tx : String} {k cur : Nat} (hcur : U.vm.findClass own = some cur) (hw : Cond.stringRef own k tx ∈ zm_tb) : ∃ q, vk_R own k tx q U := by
  obtain ⟨A, hA⟩ := N.2.1
  have hcur0 : N.s0.vm.findClass own = some cur := by rw [← hW.alike.findClass]; exact hcur
  obtain ⟨k0, cf, i, a, hk, hcf, hcp, -, hr, hev⟩ := Cond.stringRef_spec hcur0 (hA _ hw)
  exact ⟨a, vk_R.warm hW (vk_R.of (hA _ hw) hev)⟩
/-- what a 'new X(text)' needs of the tables, where X comes right below RuntimeException and its own text-constructor has the code rx, which names its upper one at ix -/
def zm_ownX (X : String) (ix : Nat) (rx : ByteArray) : List Cond :=
  Bundle.throwableAtoms ++ Bundle.throwableSAtoms ++ Bundle.passSAtoms X "java/lang/RuntimeException" ix rx ++ Bundle.chainSAtoms "java/lang/RuntimeException" ["java/lang/Exception"] ++
  [.instantiable X 6, .castable X X, .selects X Bundle.tFill0 Bundle.tFill0, .selects X Bundle.tFill Bundle.tFill,
   .lays X Bundle.tN "cause" "Ljava/lang/Throwable;", .lays X Bundle.tN "stackTrace" Bundle.steD, .lays X Bundle.tN "suppressedExceptions" Bundle.listD, .lays X Bundle.tN "detailMessage" "Ljava/lang/String;",
   .isRef (.static Bundle.tN "UNASSIGNED_STACK" Bundle.steD), .isRef (.static Bundle.tN "SUPPRESSED_SENTINEL" Bundle.listD),
   .fieldLink Bundle.tN 198 Bundle.tN "backtrace" "Ljava/lang/Object;", .lays Bundle.tN Bundle.tN "backtrace" "Ljava/lang/Object;", .lays X Bundle.tN "backtrace" "Ljava/lang/Object;"]
def zm_own (own : String) (ic : Nat) (X : String) (ix : Nat) (rx : ByteArray) : List Cond := .methodLink own ic (Bundle.initS X) :: zm_ownX X ix rx
section ZV
variable {p : Program} {l : Launch} {e : Env} {R : Room} {s : State} {m₀ : MethodId} {args : Array Value} {below : List Frame} {meth : Method} {c : Code} {V : State} {locs : List Loc} {cells slots : Nat}
set_option maxHeartbeats 2000000 in
/-- from the call of X's text-constructor to the throw's end: what is thrown is that very cell, nothing else changes -/
theorem zm_ctorT (X : Stand p l e R s m₀ args below meth c V locs cells slots) (hexec : p.tables.exec = Jvm.exec) (htr : e.platform.stackTraces = false) {own cls : String} {ic ix : Nat} {rx : ByteArray}
    (x0 : decode rx 0 = .ok (.aload_n 0, 1)) (x1 : decode rx 1 = .ok (.aload_n 1, 1)) (x2 : decode rx 2 = .ok (.invokespecial ix, 3)) (x5 : decode rx 5 = .ok (.return_, 1))
    (hown : s.vm.findClass own = some m₀.cls) (hcls : Bundle.fit cls = true) (h : ∀ a ∈ zm_own own ic cls ix rx, a.before args s = true)
    (hlocs : ∀ x ∈ locs, ∀ cell, s.heap[x.base]? = some cell → cell.vm.isStatics = false)
    {a : Addr} {cX : ClassId} {kX : Class} (hfoundX : s.vm.findClass cls = some cX) (hkX : s.vm.classes[cX]? = some kX) (hcell : V.heap[a]? = some (freshCell cX kX)) (hnew : s.heap.size ≤ a)
    {msg : Value} (hmsg : msg.isRef = true)
    {g : JFrame} (hg : g.method = m₀) (hsize : g.locals.size = c.maxLocals) (hlocked : g.locked = none) (hentered : g.entered = []) {rest : List Value} (hstack : g.stack = msg :: .ref a :: .ref a :: rest)
    (hd6 : decode c.code g.pc = .ok (.invokespecial ic, 3)) (hd9 : decode c.code (g.pc + 3) = .ok (.athrow, 1)) (hout : ∀ x ∈ c.exceptionTable.toList, covers x (g.pc + 3) = false)
    (hRframes : 5 < R.frames) (hRlocals : 2 * g.monitorRoom + ((Value.ref a :: rest).map fun v => v.category).sum + 81 ≤ R.locals) (hlocks : meth.locks = false) :
    ∃ U : State, Steps p.tables e below (V.setTop g) U ∧ U.status = .running ∧ Ended U below (.threw a) ∧ s.WarmedH U.vm ∧ s.sameButNew ({ U with vm := s.vm } : State) locs cells slots ∧
      ∃ ce : Cell, U.heap[a]? = some ce ∧ ce.vm = .none ∧ s.vm.findClass cls = some ce.cls := by
  have howns : e.platform.frameOwnsMonitors = true := by rw [X.admits.platform]
  have hfin : e.platform.finalization = false := by rw [X.admits.platform]
  have hpl : e.platform.magicAccessors = ({} : Platform).magicAccessors := by rw [X.admits.platform]
  have a' : ∀ x, x ∈ zm_own own ic cls ix rx → x.holds args s none s [] = true := fun x hx => h x hx
  obtain ⟨T, Z0, L, -, Y⟩ := ThrowableC.of_atoms (args := args) howns hfin hpl (fun x hx => h x (by simp [zm_own, zm_ownX, hx]))
  obtain ⟨Z, M, LZ, LM, hnZ⟩ := Init0T.ofS_atoms (args := args) hpl L Y (fun x hx => h x (by simp [zm_own, zm_ownX, hx]))
  obtain ⟨P2, Ps, hlen, L2, hL, hP2m, hlink2, hlink⟩ := Bundle.chainS (args := args) hpl hnZ ["java/lang/Exception"] "java/lang/RuntimeException" (by decide +kernel) (fun n hn => by rw [List.mem_singleton.mp hn]; decide +kernel) (fun x hx => h x (by simp [zm_own, zm_ownX, hx]))
  obtain ⟨P1, L1, hP1m, hP1s⟩ := PassC.ofS_atoms (args := args) (s := s) hpl (X := cls) (Y := "java/lang/RuntimeException") (Bundle.fit_spec hcls).1 (by decide) x0 x1 x2 x5 (fun x hx => h x (by simp [zm_own, zm_ownX, hx]))
  have hlink1 : P1.sup = P2.m := Option.some.inj (hP1s.symm.trans hP2m)
  have hfound : s.vm.findClass cls = some P1.m.cls := findClass_of_methodNamed hP1m
  cases Option.some.inj (hfoundX.symm.trans hfound)
  obtain ⟨c1, kX', hc1, hk, hord, -, -, hn6⟩ := Cond.instantiable_spec (a' (.instantiable cls 6) (by simp [zm_own, zm_ownX]))
  cases Option.some.inj (hc1.symm.trans hfound)
  cases Option.some.inj (hkX.symm.trans hk)
  have hsel0 : selectMethod e.platform s.vm P1.m.cls T.fill0 = .method T.fill0 := by
    obtain ⟨c2, r2, m2, q1, q2, q3, q4, -⟩ := Cond.selects_spec (a' (.selects cls Bundle.tFill0 Bundle.tFill0) (by simp [zm_own, zm_ownX]))
    cases Option.some.inj (q1.symm.trans hfound)
    cases Option.some.inj (q2.symm.trans (State.methodFound?_of_named Y.fill0 (by decide)))
    cases Option.some.inj (q3.symm.trans Y.fill0)
    rw [Launch.admits_selectMethod X.admits]; exact q4
  have hselF : selectMethod e.platform s.vm P1.m.cls T.fill = .method T.fill := by
    obtain ⟨c2, r2, m2, q1, q2, q3, q4, -⟩ := Cond.selects_spec (a' (.selects cls Bundle.tFill Bundle.tFill) (by simp [zm_own, zm_ownX]))
    cases Option.some.inj (q1.symm.trans hfound)
    cases Option.some.inj (q2.symm.trans (State.methodFound?_of_named Y.fill (by decide)))
    cases Option.some.inj (q3.symm.trans Y.fill)
    rw [Launch.admits_selectMethod X.admits]; exact q4
  obtain ⟨cellS0, hcS0, hiss⟩ := Y.statics
  obtain ⟨u0, hu0⟩ := Cond.staticRefV Y.unassigned L.unassignedStatic L.statics hcS0 hiss (a' (.isRef (.static Bundle.tN "UNASSIGNED_STACK" Bundle.steD)) (by simp [zm_own, zm_ownX]))
  obtain ⟨sen, hsen⟩ := Cond.staticRefV Y.sentinel L.sentinelStatic L.statics hcS0 hiss (a' (.isRef (.static Bundle.tN "SUPPRESSED_SENTINEL" Bundle.listD)) (by simp [zm_own, zm_ownX]))
  obtain ⟨ci198, i198, fB, hk198, hg198, ha198, hsB, -, hnB, htB, hffB⟩ := Cond.ownField (t := .object "java/lang/Object") Y.found L.cls (by decide +kernel) (a' (.fieldLink Bundle.tN 198 Bundle.tN "backtrace" "Ljava/lang/Object;") (by simp [zm_own, zm_ownX])) (a' (.lays Bundle.tN Bundle.tN "backtrace" "Ljava/lang/Object;") (by simp [zm_own, zm_ownX])) e.platform hpl
  obtain ⟨cellS, hcS', heS, -, hkeep⟩ := X.same.2.2.2.2.2 T.aS cellS0 hcS0
  have hcellS : V.heap[T.aS]? = some cellS := hcS'
  have hout' : ∀ i, (⟨T.aS, i⟩ : Loc) ∉ locs := fun i hmem => by
    have := hlocs _ hmem cellS0 hcS0
    rw [hiss] at this; cases this
  have hknownS : cellS.vm ≠ .unknown := by
    rw [heS]; intro hu
    rw [show cellS0.vm = .unknown from hu] at hiss
    cases hiss
  have hneS : T.aS ≠ a := Nat.ne_of_lt (Nat.lt_of_lt_of_le (Array.getElem?_eq_some_iff.mp hcS0).1 hnew)
  obtain ⟨iM, hffM⟩ := Y.msg
  obtain ⟨tyC, dC, hdC, hdnC⟩ := Cond.laysAt hfound hk Y.cause (a' (.lays cls Bundle.tN "cause" "Ljava/lang/Throwable;") (by simp [zm_own, zm_ownX]))
  obtain ⟨tyS, dS, hdS, hdnS⟩ := Cond.laysAt hfound hk Y.stack (a' (.lays cls Bundle.tN "stackTrace" Bundle.steD) (by simp [zm_own, zm_ownX]))
  obtain ⟨tyP, dP, hdP, hdnP⟩ := Cond.laysAt hfound hk Y.supp (a' (.lays cls Bundle.tN "suppressedExceptions" Bundle.listD) (by simp [zm_own, zm_ownX]))
  obtain ⟨tyM, dM, hdM, hdnM⟩ := Cond.laysAt hfound hk hffM (a' (.lays cls Bundle.tN "detailMessage" "Ljava/lang/String;") (by simp [zm_own, zm_ownX]))
  obtain ⟨tyB, dB, hdB, hdnB⟩ := Cond.laysAt hfound hk hffB (a' (.lays cls Bundle.tN "backtrace" "Ljava/lang/Object;") (by simp [zm_own, zm_ownX]))
  have bC := Cond.laysApart hdB hdC hdnB hdnC (by rw [hnB, Y.causeName]; decide)
  have bS := Cond.laysApart hdB hdS hdnB hdnS (by rw [hnB, Y.stackName]; decide)
  have bP := Cond.laysApart hdB hdP hdnB hdnP (by rw [hnB, Y.suppName]; decide)
  have hskip : SkipFacts T e.platform s (fun u => u) u0 ((preparedCellV T.toThrowableT (freshCell P1.m.cls kX) a u0 sen).withEntry V.cur) :=
    ⟨{ ci198 := ci198, i198 := i198, fBack := fB }, ⟨hk198, hg198, ha198, hsB⟩, by
      have := fresh_default (c := P1.m.cls) tyB
      rw [htB] at this
      simpa [preparedCellV, Cell.setSlot, Cell.withEntry, Array.getElem?_setIfInBounds, bC, bS, bP, bC.symm, bS.symm, bP.symm, defaultValue] using this, fun _ _ => rfl⟩
  obtain ⟨tm, methC, cdC, kC, vm₁, hnC, -, -, -, -, -, -, -, hW₁, st1⟩ := Steps.initColdS (tb := p.tables) (e := e) (below := below) (s := s) (U := V) X.here hexec X.warmed hpl hown (t := Bundle.initS cls) rfl rfl (Bundle.fit_spec hcls).2
    (a' (.methodLink own ic (Bundle.initS cls)) (by simp [zm_own, zm_ownX])) (h (.instanceMethod (Bundle.initS cls)) (by simp [zm_own, zm_ownX, Bundle.passSAtoms])) (bytes := rx) (maxL := 2) (h (.code (Bundle.initS cls) rx 2 none) (by simp [zm_own, zm_ownX, Bundle.passSAtoms]))
    (f := g) hg (a := a) (msg := msg) (rest := .ref a :: rest) hstack hd6
  cases Option.some.inj (hnC.symm.trans hP1m)
  have X₁ := X.noted hW₁
  obtain ⟨vm₂, X₂, st2⟩ := X₁.ctorMessageOffV hexec (g := { g with stack := .ref a :: rest }) hg hsize T L Z LZ M LM (P1 :: P2 :: Ps)
    (fun P hP => by
      rcases List.mem_cons.mp hP with rfl | hP
      · exact L1
      · rcases List.mem_cons.mp hP with rfl | hP
        · exact L2
        · exact hL P hP) ⟨hlink1, hlink2, hlink⟩ (u0 := u0) (sen := sen) (self := a) hmsg (cell := freshCell P1.m.cls kX) (cellS := cellS)
    hcell (fun _ => by simp) (by simp) rfl rfl hsel0 hselF hcellS hneS hknownS (by rw [hkeep _ (hout' _)]; exact hu0) (by rw [hkeep _ (hout' _)]; exact hsen)
    (Takes.of_laid hk hord tyC (by rw [Y.causeType]; rfl)) (Takes.of_laid hk hord tyS (by rw [Y.stackType]; exact fits_refV_array _ u0)) (Takes.of_laid hk hord tyP (by rw [Y.suppType]; exact fits_refV_object _ sen))
    (Takes.of_laid hk hord tyM (by rw [Y.msgType]; exact fits_refV_object _ ⟨msg, hmsg⟩)) Y.objLocals hskip htr [] hd6
    (by simp only [List.length_cons, List.length_nil] at hlen ⊢; rw [hlen]; omega) (by simp only [List.length_cons, List.length_nil] at hlen ⊢; rw [hlen]; exact hRlocals)
  obtain ⟨hwalk, hrun, hended, hWU, hsame⟩ := X₂.athrowLeaves hexec (g := { g with stack := .ref a :: rest, pc := g.pc + 3 }) hg hlocked hentered hout (a := a) (rest := rest) rfl hd9
  have hlt : a < ((V.setVm vm₁).setVm vm₂).heap.size := (Array.getElem?_eq_some_iff.mp hcell).1
  have hU := heapAt_setCell_self (s := (V.setVm vm₁).setVm vm₂) (plainBareV T.toThrowableT (freshCell P1.m.cls kX) a u0 sen msg) hlt
  refine ⟨_, st1 _ (fun acts => ?_), hrun, hended, hWU, hsame.weaken (fun y hy hlt' => ?_) (Nat.le_refl _) (Nat.le_refl _), _, hU, rfl, hfound⟩
  · rw [doInvoke_state]
    exact st2 _ hwalk
  · rcases List.mem_append.mp hy with h1 | h1
    · exact h1
    · exfalso
      have hb : y.base = a := by
        simp only [List.mem_cons, List.not_mem_nil, or_false] at h1
        rcases h1 with rfl | rfl | rfl | rfl | rfl <;> rfl
      rw [hb] at hlt'
      exact Nat.not_lt.mpr hnew hlt'
end ZV
section ZU
variable {p : Program} {l : Launch} {e : Env} {R : Room} {s : State} {m : MethodId} {args : Array Value} {below : List Frame} {meth : Method} {c : Code} {H : Heap} {locs : List Loc} {cells slots : Nat} {Q : State → Prop}
/-- a text is loaded, by a short or a wide number -/
theorem zm_ldcS_ok {cc : ByteArray} {pc iw i q : Nat} {ls : Array Slot} {rest : List Value} (hexec : p.tables.exec = Jvm.exec) (hb : c.code = cc) {own tx : String} (hown : s.vm.findClass own = some m.cls) (hZ : vk_R own i tx q s) (hdg : (decode cc pc = .ok (.ldc i, 2) ∧ iw = 2) ∨ (decode cc pc = .ok (.ldc_w i, 3) ∧ iw = 3))
    (k : W p l e R s m args below meth c H locs cells slots Q (F0 m (pc + iw) ls (.ref q :: rest))) : W p l e R s m args below meth c H locs cells slots Q (F0 m pc ls rest) := by
  rcases hdg with ⟨hdg, rfl⟩ | ⟨hdg, rfl⟩
  · exact va_ldcS hexec hb hown hZ hdg k
  · intro T hT X
    obtain ⟨t, a1, b1⟩ := k T hT X
    exact ⟨t, X.ldcStringW hexec hown (text := tx) (a := q) hZ.1 hZ.2 (g := F0 m pc ls rest) rfl (by rw [hb]; exact hdg) t a1, b1⟩
end ZU
section ZW
variable {N : zm_N} {d mi pc : Nat} {lv : zm_L} {st : List Value} {G : zm_H} {Q : zm_O → zm_H → Prop}
/-- the place at pc of the method mi throws a thing of the kind xk -/
def zm_okx (mi pc xk : Nat) : Prop := ∃ (i0 i1 ic ix : Nat) (X tx : String) (rx : ByteArray) (iw : Nat), decode rx 0 = .ok (.aload_n 0, 1) ∧ decode rx 1 = .ok (.aload_n 1, 1) ∧ decode rx 2 = .ok (.invokespecial ix, 3) ∧ decode rx 5 = .ok (.return_, 1) ∧ decode (zm_by mi) pc = .ok (.new i0, 3) ∧ decode (zm_by mi) (pc + 3) = .ok (.dup, 1) ∧
  ((decode (zm_by mi) (pc + 4) = .ok (.ldc i1, 2) ∧ iw = 2) ∨ (decode (zm_by mi) (pc + 4) = .ok (.ldc_w i1, 3) ∧ iw = 3)) ∧ decode (zm_by mi) (pc + 4 + iw) = .ok (.invokespecial ic, 3) ∧ decode (zm_by mi) (pc + 4 + iw + 3) = .ok (.athrow, 1) ∧
  zm_xn[xk]? = some X ∧ Cond.classLink (zm_mn mi).cls i0 X ∈ zm_tb ∧ Cond.instantiable X 6 ∈ zm_tb ∧ Cond.initialized X ∈ zm_tb ∧ Cond.stringRef (zm_mn mi).cls i1 tx ∈ zm_tb ∧ Bundle.fit X = true ∧ zm_out mi (pc + 4 + iw + 3) ∧ Cond.methodLink (zm_mn mi).cls ic (Bundle.initS X) ∈ zm_tb ∧ ∀ w ∈ zm_ownX X ix rx, w ∈ zm_tb ∧ zm_gw w = true
set_option maxHeartbeats 1000000 in
theorem zm_J_throw {xk : Nat} (hok : zm_okx mi pc xk) (hd : 7 ≤ d) (hw : (st.map fun v => v.category).sum + 95 ≤ zm_w * 7) (hr : zm_room G 6 = true) (hq : Q (.inr (xk, G.1.length)) (zm_new G (.inr (zm_cl.length, [])) 6)) : zm_J N d mi pc lv st G Q := by
  obtain ⟨i0, i1, ic, ix, X, tx, rx, iw, x0, x1, x2, x5, d0, d1, d2, d3, d4, hxn, w1, w2, w3, w4, f1, hout, wm, hat0⟩ := hok
  have hat : ∀ w ∈ zm_own (zm_mn mi).cls ic X ix rx, w ∈ zm_tb ∧ zm_gw w = true := List.forall_mem_cons.mpr ⟨⟨wm, rfl⟩, hat0⟩
  intro p e R s m args below meth c sl0 Cx H locs ls cells slots hR hl hL hc hs T hT XX
  subst hT
  obtain ⟨cx1, cx2, cx3, cx4, cx5, cx6, cx7, cx8, cx9, cx10, cx11, cx12, cx13⟩ := id Cx
  simp only [zm_room, Bool.and_eq_true, decide_eq_true_eq] at hr
  have hz := hR.1
  have hWT : N.s0.WarmedH T.vm := State.WarmedH.trans cx5 XX.warmed
  have Y := zm_rebase XX (by omega) (by omega)
  generalize hs' : T.setFrames (.invoking m args :: below) = s' at Y
  have hvm : s'.vm = T.vm := by rw [← hs']; rfl
  have hhp : s'.heap = T.heap := by rw [← hs']; rfl
  have hWs : N.s0.WarmedH s'.vm := by rw [hvm]; exact hWT
  have hHs : ∀ q : Nat, q < N.b → s'.heap[q]? = N.s0.heap[q]? := by rw [hhp]; exact hR.2.2.2
  have hown : s'.vm.findClass (zm_mn mi).cls = some m.cls := by rw [hvm, XX.warmed.alike.findClass]; exact cx4
  obtain ⟨cX, hcX, -⟩ : ∃ cX, s'.vm.findClass X = some cX ∧ True := by
    obtain ⟨c1, k1, h1, -⟩ := Cond.instantiable_spec (zm_wd N hWs w2 rfl args)
    exact ⟨c1, h1, trivial⟩
  obtain ⟨qs, hqs⟩ := zm_ldcS N hWs hown w4
  have hmul : zm_w * 7 ≤ zm_w * d := Nat.mul_le_mul_left _ hd
  have key : W p N.l e { R with cells := R.cells - cells, slots := R.slots - slots } s' m args below meth c T.heap [] 0 0 (zm_End N s sl0 below Q) (F0 m pc ls (st.map (zm_sh N.ad))) := by
    refine W.newcK cx1 cx2 hown (zm_wd N hWs w1 rfl args) (zm_wd N hWs w2 rfl args) (zm_wd N hWs w3 rfl args) rfl d0 (by show 0 + 1 ≤ R.cells - cells; omega) (by show 0 + 6 ≤ R.slots - slots; omega) hcX rfl fun H1 kX hkX e1 z1 o1 => ?_
    refine lv_dup cx1 cx2 d1 rfl ?_
    refine zm_ldcS_ok cx1 cx2 hown hqs d2 ?_
    intro T3 hT3 X3
    obtain ⟨U, hsteps, hrun, hend, hWU, hsame, ce, hce, hcv, hcn⟩ := zm_ctorT X3 cx1 (by rw [X3.admits.platform]; exact N.2.2.2.1) x0 x1 x2 x5 hown f1 (zm_atoms N hWs hHs hat args) (fun x hx => by cases hx) hcX hkX (by rw [hT3]; exact e1) (by rw [hhp]; exact Nat.le_refl _) (msg := .ref qs) rfl
      (g := F0 m (pc + 4 + iw) ls (.ref qs :: .ref T.heap.size :: .ref T.heap.size :: st.map (zm_sh N.ad))) rfl (by rw [cx3]; exact hl.1) rfl rfl rfl (by rw [cx2]; exact d3) (by rw [cx2]; exact d4) (by rw [cx9]; exact hout) (by show 5 < R.frames; omega)
      (by show 2 * 0 + ((Value.ref T.heap.size :: st.map (zm_sh N.ad)).map fun v => v.category).sum + _ ≤ R.locals; rw [List.map_cons, List.sum_cons, zm_cat_sh]; show 2 * 0 + (1 + _) + _ ≤ _; omega) cx6
    have hsz : U.heap.size = T.heap.size + 1 := by
      have h1 : U.heap.size ≤ s'.heap.size + (0 + 1) := hsame.2.2.1
      have h2 : T.heap.size < U.heap.size := (Array.getElem?_eq_some_iff.mp hce).1
      rw [hhp] at h1
      omega
    have hold : ∀ q : Nat, q < T.heap.size → U.heap[q]? = T.heap[q]? := by
      intro q hq
      have h1 : s'.heap[q]? = some (T.heap[q]) := by rw [hhp]; exact Array.getElem?_eq_getElem hq
      have h2 : ({ U with vm := s'.vm } : State).heap[q]? = some (T.heap[q]) := State.sameButNew.old_cell hsame h1
      rw [Array.getElem?_eq_getElem hq]
      exact h2
    have hnx : N.ad G.1.length = T.heap.size := hR.next
    have hsame2 : s.sameButNew ({ U with vm := s.vm } : State) (locs ++ []) (cells + (0 + 1)) (slots + (0 + 6)) := by
      refine XX.same.trans ?_
      obtain ⟨a1, a2, a3, a4, a5, a6⟩ := hsame
      refine ⟨?_, ?_, ?_, ?_, ?_, ?_⟩
      · have h1 := congrArg (fun z : State => z.setVm s.vm) a1
        rw [← hs', State.setFrames_setFrames] at h1
        exact h1
      · rw [hhp] at a2; exact a2
      · rw [hhp] at a3; exact a3
      · rw [← hs'] at a4; exact a4
      · rw [hhp] at a5; exact a5
      · rw [hhp] at a6; exact a6
    refine ⟨U, hsteps, .inr (xk, G.1.length), _, .threw T.heap.size, locs ++ [], cells + (0 + 1), slots + (0 + 6), hrun, hend, ⟨by rw [hnx], X, ce, hxn, by rw [hnx]; exact hce, hcv, ?_⟩, hq, ?_, State.WarmedH.trans XX.warmed (by rw [← hs'] at hWU; exact hWU), hsame2, ?_, ?_, ?_⟩
    · rw [hWU.alike.findClass]; exact hcn
    · exact hR.new (fun z => absurd z (Nat.lt_irrefl _)) hsz hold
    · intro q hq
      rw [List.append_nil] at hq
      exact hL q hq
    · omega
    · show sl0 + (slots + (0 + 6)) = G.2 + 6
      omega
  exact key T rfl Y
end ZW
/-! Object's own constructor -/
def zm_okO (mi idx : Nat) : Prop := Cond.methodLink (zm_mn mi).cls idx Lib.objectInit ∈ zm_tb ∧ Cond.instanceMethod Lib.objectInit ∈ zm_tb ∧ Cond.code Lib.objectInit ⟨#[0xb1]⟩ 1 none ∈ zm_tb
theorem zm_J_O {N : zm_N} {d mi pc idx a : Nat} {lv : zm_L} {rest : List Value} {G : zm_H} {Q : zm_O → zm_H → Prop} (hdg : decode (zm_by mi) pc = .ok (.invokespecial idx, 3)) (hok : zm_okO mi idx) (hw : (rest.map fun v => v.category).sum + 12 ≤ zm_w) (k : zm_J N (d + 1) mi (pc + 3) lv rest G Q) : zm_J N (d + 1) mi pc lv (.ref a :: rest) G Q := by
  intro p e R s m args below meth c sl0 Cx H locs ls cells slots hR hl hL hc hs
  obtain ⟨cx1, cx2, cx3, cx4, cx5, cx6, cx7, cx8, cx9, cx10, cx11, cx12, cx13⟩ := id Cx
  have hwd : zm_w * (d + 1) = zm_w * d + zm_w := Nat.mul_succ _ _
  exact W.objInit cx1 cx2 cx4 (zm_wd N cx5 hok.1 rfl args) (zm_wd N cx5 hok.2.1 rfl args) (zm_wd N cx5 hok.2.2 rfl args) (g := F0 m pc ls (.ref (N.ad a) :: rest.map (zm_sh N.ad))) rfl (by rw [cx3]; exact hl.1) rfl hdg (by omega) (by show 2 * 0 + ((rest.map (zm_sh N.ad)).map fun v => v.category).sum + 12 ≤ _; rw [zm_cat_sh]; omega) (k p e R s m args below meth c sl0 Cx H locs ls cells slots hR hl hL hc hs)
end
section
/-! returns in one rule -/
def zm_ret (i : Instr) (rt : Option FieldType) (st : List Value) : Option (Option Value) := match i, rt, st with
  | .ireturn, some .int, [.int v] => some (some (.int v))
  | .ireturn, some .boolean, [.int v] => if v = 0 ∨ v = 1 then some (some (.int v)) else none
  | .areturn, some (.object _), [.ref a] => some (some (.ref a))
  | .areturn, some (.object _), [.null] => some (some .null)
  | .areturn, some (.array _), [.ref a] => some (some (.ref a))
  | .return_, none, [] => some none
  | _, _, _ => none
theorem zm_J_fin (hT : zm_okt) {N : zm_N} {d mi pc : Nat} {lv : zm_L} {st : List Value} {G : zm_H} {Q : zm_O → zm_H → Prop} {q : zm_I} {v : Option Value} (hq : zm_cd mi pc = some q) (h : zm_ret q.1 (zm_rt mi) st = some v) (k : Q (.inl v) G) : zm_J N d mi pc lv st G Q := by
  obtain ⟨i, qa, qb, qn⟩ := q
  have hdg := (hT.1 mi pc _ hq).1
  unfold zm_ret at h
  split at h
  · rename_i hi hr
    have hi : i = .ireturn := hi
    subst hi
    cases Option.some.inj h
    exact zm_J_iret hdg hr rfl k
  · rename_i x hi hr
    have hi : i = .ireturn := hi
    subst hi
    split at h
    · rename_i hx
      cases Option.some.inj h
      refine zm_J_iret hdg hr ?_ k
      rcases hx with rfl | rfl <;> rfl
    · cases h
  · rename_i hi hr
    have hi : i = .areturn := hi
    subst hi
    cases Option.some.inj h
    exact zm_J_aret hdg hr rfl rfl k
  · rename_i hi hr
    have hi : i = .areturn := hi
    subst hi
    cases Option.some.inj h
    exact zm_J_aret hdg hr rfl rfl k
  · rename_i hi hr
    have hi : i = .areturn := hi
    subst hi
    cases Option.some.inj h
    exact zm_J_aret hdg hr rfl rfl k
  · rename_i hi hr
    have hi : i = .return_ := hi
    subst hi
    cases Option.some.inj h
    exact zm_J_vret hdg hr k
  · cases h
end
section
/-! THE TABLES' OWN ROWS, laid by wip/gen/gen.py: every instruction is as it stands in the code, and the words that it wants stand among the tables' -/
theorem zm_memT1 (i : Nat) {w : Cond} (h : tables_1_1[i]? = some w) : w ∈ zm_tb := List.mem_append_left _ (List.mem_append_right _ (List.mem_append_left _ (List.mem_of_getElem? h)))
theorem zm_memT2 (i : Nat) {w : Cond} (h : tables_1_2[i]? = some w) : w ∈ zm_tb := List.mem_append_left _ (List.mem_append_right _ (List.mem_append_right _ (List.mem_append_left _ (List.mem_of_getElem? h))))
theorem zm_memT3 (i : Nat) {w : Cond} (h : tables_1_3[i]? = some w) : w ∈ zm_tb := List.mem_append_left _ (List.mem_append_right _ (List.mem_append_right _ (List.mem_append_right _ (List.mem_append_left _ (List.mem_of_getElem? h)))))
theorem zm_memT4 (i : Nat) {w : Cond} (h : tables_1_4[i]? = some w) : w ∈ zm_tb := List.mem_append_left _ (List.mem_append_right _ (List.mem_append_right _ (List.mem_append_right _ (List.mem_append_right _ (List.mem_append_left _ (List.mem_of_getElem? h))))))
theorem zm_memT5 (i : Nat) {w : Cond} (h : tables_1_5[i]? = some w) : w ∈ zm_tb := List.mem_append_left _ (List.mem_append_right _ (List.mem_append_right _ (List.mem_append_right _ (List.mem_append_right _ (List.mem_append_right _ (List.mem_of_getElem? h))))))
theorem zm_memS (i : Nat) {w : Cond} (h : (k2_sels lw_privs)[i]? = some w) : w ∈ zm_tb := List.mem_append_left _ (List.mem_append_left _ (List.mem_of_getElem? h))
theorem zm_memE (i : Nat) {w : Cond} (h : zm_ex[i]? = some w) : w ∈ zm_tb := List.mem_append_right _ (List.mem_of_getElem? h)
theorem zm_okw_n {mi idx x y : Nat} {q : vw_C} (h : zm_cl[x]? = some q) (hf : (q.2.1 y).2.2.2 = false) : zm_okw mi idx x y := fun C T n h' => by
  have e := Option.some.inj (h.symm.trans h')
  subst e
  exact Or.inl hf
theorem zm_okw_f {mi idx x y : Nat} {q : vw_C} (h : zm_cl[x]? = some q) (h1 : (zm_mn mi).name = "<init>") (h2 : (q.2.1 y).1 = (zm_mn mi).cls) (h3 : Cond.fieldLink (zm_mn mi).cls idx (q.2.1 y).1 (q.2.1 y).2.1 (q.2.1 y).2.2.1 ∈ zm_tb) : zm_okw mi idx x y := fun C T n h' => by
  have e := Option.some.inj (h.symm.trans h')
  subst e
  exact Or.inr ⟨h1, h2, h3⟩
theorem zm_out0 {mi pc : Nat} (h : zm_hd mi = []) : zm_out mi pc := by
  intro q hq
  rw [h] at hq
  cases hq
theorem zw_0 : (Jvm.Cond.initialized "NeedMachineLaw") ∈ zm_tb := zm_memT1 0 rfl
theorem zw_1 : (Jvm.Cond.initialized "NeedMachine") ∈ zm_tb := zm_memT1 1 rfl
theorem zw_2 : (Jvm.Cond.initialized "NeedMachine$Text") ∈ zm_tb := zm_memT1 2 rfl
theorem zw_3 : (Jvm.Cond.initialized "NeedMachine$Store") ∈ zm_tb := zm_memT1 3 rfl
theorem zw_4 : (Jvm.Cond.initialized "NeedMachine$Value") ∈ zm_tb := zm_memT1 4 rfl
theorem zw_7 : (Jvm.Cond.initialized "java/util/ArrayList") ∈ zm_tb := zm_memT1 7 rfl
theorem zw_8 : (Jvm.Cond.initialized "NeedMachineModel") ∈ zm_tb := zm_memT1 8 rfl
theorem zw_12 : (Jvm.Cond.initialized "java/lang/IllegalArgumentException") ∈ zm_tb := zm_memT1 12 rfl
theorem zw_13 : (Jvm.Cond.initialized "java/lang/IllegalStateException") ∈ zm_tb := zm_memT1 13 rfl
theorem zw_14 : (Jvm.Cond.initialized "NeedMachine$Definition") ∈ zm_tb := zm_memT1 14 rfl
theorem zw_15 : (Jvm.Cond.initialized "NeedMachine$Expression") ∈ zm_tb := zm_memT1 15 rfl
theorem zw_22 : (Jvm.Cond.initialized "java/util/NoSuchElementException") ∈ zm_tb := zm_memT1 22 rfl
theorem zw_23 : (Jvm.Cond.initialized "NeedMachine$Closure") ∈ zm_tb := zm_memT1 23 rfl
theorem zw_24 : (Jvm.Cond.initialized "java/lang/UnsupportedOperationException") ∈ zm_tb := zm_memT1 24 rfl
theorem zw_25 : (Jvm.Cond.initialized "NeedMachine$Arguments") ∈ zm_tb := zm_memT1 25 rfl
theorem zw_26 : (Jvm.Cond.initialized "java/lang/ArithmeticException") ∈ zm_tb := zm_memT1 26 rfl
theorem zw_27 : (Jvm.Cond.classLink "NeedMachineLaw" (8 : Nat) "NeedMachine") ∈ zm_tb := zm_memT1 27 rfl
theorem zw_28 : (Jvm.Cond.instantiable "NeedMachine" (9 : Nat)) ∈ zm_tb := zm_memT1 28 rfl
theorem zw_29 : (Jvm.Cond.methodLink "NeedMachineLaw" (43 : Nat) ({ cls := "NeedMachine", name := "<init>", desc := "()V" } : Jvm.MethodName)) ∈ zm_tb := zm_memT1 29 rfl
theorem zw_30 : (Jvm.Cond.instanceMethod ({ cls := "NeedMachine", name := "<init>", desc := "()V" } : Jvm.MethodName)) ∈ zm_tb := zm_memT1 30 rfl
theorem zw_31 : (Jvm.Cond.code ({ cls := "NeedMachine", name := "<init>", desc := "()V" } : Jvm.MethodName) prog_1_method_1_code (1 : Nat) (Option.none : Option Jvm.ClassFile.FieldType)) ∈ zm_tb := zm_memT1 31 rfl
theorem zw_32 : (Jvm.Cond.methodLink "NeedMachine" (1 : Nat) ({ cls := "java/lang/Object", name := "<init>", desc := "()V" } : Jvm.MethodName)) ∈ zm_tb := zm_memT1 32 rfl
theorem zw_33 : (Jvm.Cond.instanceMethod ({ cls := "java/lang/Object", name := "<init>", desc := "()V" } : Jvm.MethodName)) ∈ zm_tb := zm_memT1 33 rfl
theorem zw_34 : (Jvm.Cond.code ({ cls := "java/lang/Object", name := "<init>", desc := "()V" } : Jvm.MethodName) object_method_1_code (1 : Nat) (Option.none : Option Jvm.ClassFile.FieldType)) ∈ zm_tb := zm_memT1 34 rfl
theorem zw_35 : (Jvm.Cond.classLink "NeedMachine" (7 : Nat) "NeedMachine$Text") ∈ zm_tb := zm_memT1 35 rfl
theorem zw_36 : (Jvm.Cond.instantiable "NeedMachine$Text" (8 : Nat)) ∈ zm_tb := zm_memT1 36 rfl
theorem zw_37 : (Jvm.Cond.methodLink "NeedMachine" (9 : Nat) ({ cls := "NeedMachine$Text", name := "<init>", desc := "()V" } : Jvm.MethodName)) ∈ zm_tb := zm_memT1 37 rfl
theorem zw_38 : (Jvm.Cond.instanceMethod ({ cls := "NeedMachine$Text", name := "<init>", desc := "()V" } : Jvm.MethodName)) ∈ zm_tb := zm_memT1 38 rfl
theorem zw_39 : (Jvm.Cond.code ({ cls := "NeedMachine$Text", name := "<init>", desc := "()V" } : Jvm.MethodName) prog_7_method_1_code (1 : Nat) (Option.none : Option Jvm.ClassFile.FieldType)) ∈ zm_tb := zm_memT1 39 rfl
theorem zw_40 : (Jvm.Cond.methodLink "NeedMachine$Text" (3 : Nat) ({ cls := "java/lang/Object", name := "<init>", desc := "()V" } : Jvm.MethodName)) ∈ zm_tb := zm_memT1 40 rfl
theorem zw_41 : (Jvm.Cond.fieldLink "NeedMachine$Text" (33 : Nat) "NeedMachine$Text" "length" "I") ∈ zm_tb := zm_memT1 41 rfl
theorem zw_42 : (Jvm.Cond.fieldLink "NeedMachine" (108 : Nat) "NeedMachine$Text" "length" "I") ∈ zm_tb := zm_memT1 42 rfl
theorem zw_43 : (Jvm.Cond.fieldLink "NeedMachine$Text" (9 : Nat) "NeedMachine$Text" "badPlace" "I") ∈ zm_tb := zm_memT1 43 rfl
theorem zw_44 : (Jvm.Cond.fieldLink "NeedMachine" (105 : Nat) "NeedMachine$Text" "badPlace" "I") ∈ zm_tb := zm_memT1 44 rfl
theorem zw_45 : (Jvm.Cond.fieldLink "NeedMachine$Text" (15 : Nat) "NeedMachine$Text" "characters" "[C") ∈ zm_tb := zm_memT1 45 rfl
theorem zw_46 : (Jvm.Cond.fieldLink "NeedMachine$Text" (19 : Nat) "NeedMachine$Text" "parameters" "[C") ∈ zm_tb := zm_memT1 46 rfl
theorem zw_47 : (Jvm.Cond.fieldLink "NeedMachine$Text" (63 : Nat) "NeedMachine$Text" "parametersRead" "I") ∈ zm_tb := zm_memT1 47 rfl
theorem zw_48 : (Jvm.Cond.fieldLink "NeedMachine$Text" (47 : Nat) "NeedMachine$Text" "end" "I") ∈ zm_tb := zm_memT1 48 rfl
theorem zw_49 : (Jvm.Cond.fieldLink "NeedMachine$Text" (44 : Nat) "NeedMachine$Text" "place" "I") ∈ zm_tb := zm_memT1 49 rfl
theorem zw_50 : (Jvm.Cond.fieldLink "NeedMachine$Text" (76 : Nat) "NeedMachine$Text" "owed" "I") ∈ zm_tb := zm_memT1 50 rfl
theorem zw_68 : (Jvm.Cond.arrayClass Jvm.ClassFile.FieldType.char) ∈ zm_tb := zm_memT1 68 rfl
theorem zw_69 : (Jvm.Cond.classLink "NeedMachine" (16 : Nat) "NeedMachine$Store") ∈ zm_tb := zm_memT1 69 rfl
theorem zw_70 : (Jvm.Cond.instantiable "NeedMachine$Store" (7 : Nat)) ∈ zm_tb := zm_memT1 70 rfl
theorem zw_71 : (Jvm.Cond.methodLink "NeedMachine" (18 : Nat) ({ cls := "NeedMachine$Store", name := "<init>", desc := "()V" } : Jvm.MethodName)) ∈ zm_tb := zm_memT1 71 rfl
theorem zw_72 : (Jvm.Cond.instanceMethod ({ cls := "NeedMachine$Store", name := "<init>", desc := "()V" } : Jvm.MethodName)) ∈ zm_tb := zm_memT1 72 rfl
theorem zw_73 : (Jvm.Cond.code ({ cls := "NeedMachine$Store", name := "<init>", desc := "()V" } : Jvm.MethodName) prog_6_method_1_code (1 : Nat) (Option.none : Option Jvm.ClassFile.FieldType)) ∈ zm_tb := zm_memT1 73 rfl
theorem zw_74 : (Jvm.Cond.methodLink "NeedMachine$Store" (3 : Nat) ({ cls := "java/lang/Object", name := "<init>", desc := "()V" } : Jvm.MethodName)) ∈ zm_tb := zm_memT1 74 rfl
theorem zw_75 : (Jvm.Cond.classLink "NeedMachine$Store" (9 : Nat) "NeedMachine$Value") ∈ zm_tb := zm_memT1 75 rfl
theorem zw_76 : (Jvm.Cond.instantiable "NeedMachine$Value" (5 : Nat)) ∈ zm_tb := zm_memT1 76 rfl
theorem zw_77 : (Jvm.Cond.methodLinkNest "NeedMachine$Store" (11 : Nat) ({ cls := "NeedMachine$Value", name := "<init>", desc := "()V" } : Jvm.MethodName) "NeedMachine") ∈ zm_tb := zm_memT1 77 rfl
theorem zw_78 : (Jvm.Cond.instanceMethod ({ cls := "NeedMachine$Value", name := "<init>", desc := "()V" } : Jvm.MethodName)) ∈ zm_tb := zm_memT1 78 rfl
theorem zw_79 : (Jvm.Cond.code ({ cls := "NeedMachine$Value", name := "<init>", desc := "()V" } : Jvm.MethodName) prog_8_method_1_code (1 : Nat) (Option.none : Option Jvm.ClassFile.FieldType)) ∈ zm_tb := zm_memT1 79 rfl
theorem zw_80 : (Jvm.Cond.methodLink "NeedMachine$Value" (1 : Nat) ({ cls := "java/lang/Object", name := "<init>", desc := "()V" } : Jvm.MethodName)) ∈ zm_tb := zm_memT1 80 rfl
theorem zw_81 : (Jvm.Cond.fieldLink "NeedMachine$Store" (18 : Nat) "NeedMachine$Value" "kind" "I") ∈ zm_tb := zm_memT1 81 rfl
theorem zw_82 : (Jvm.Cond.fieldLink "NeedMachine" (65 : Nat) "NeedMachine$Value" "kind" "I") ∈ zm_tb := zm_memT1 82 rfl
theorem zw_83 : (Jvm.Cond.fieldLink "NeedMachine$Store" (48 : Nat) "NeedMachine$Value" "number" "I") ∈ zm_tb := zm_memT1 83 rfl
theorem zw_84 : (Jvm.Cond.fieldLink "NeedMachine" (203 : Nat) "NeedMachine$Value" "number" "I") ∈ zm_tb := zm_memT1 84 rfl
theorem zw_85 : (Jvm.Cond.fieldLink "NeedMachine$Store" (51 : Nat) "NeedMachine$Value" "head" "LNeedMachine$Closure;") ∈ zm_tb := zm_memT1 85 rfl
theorem zw_86 : (Jvm.Cond.fieldLink "NeedMachine" (85 : Nat) "NeedMachine$Value" "head" "LNeedMachine$Closure;") ∈ zm_tb := zm_memT1 86 rfl
theorem zw_87 : (Jvm.Cond.fieldLink "NeedMachine$Store" (55 : Nat) "NeedMachine$Value" "tail" "LNeedMachine$Closure;") ∈ zm_tb := zm_memT1 87 rfl
theorem zw_88 : (Jvm.Cond.fieldLink "NeedMachine" (93 : Nat) "NeedMachine$Value" "tail" "LNeedMachine$Closure;") ∈ zm_tb := zm_memT1 88 rfl
theorem zw_89 : (Jvm.Cond.fieldLink "NeedMachine$Store" (58 : Nat) "NeedMachine$Value" "arguments" "LNeedMachine$Arguments;") ∈ zm_tb := zm_memT1 89 rfl
theorem zw_90 : (Jvm.Cond.fieldLink "NeedMachine" (206 : Nat) "NeedMachine$Value" "arguments" "LNeedMachine$Arguments;") ∈ zm_tb := zm_memT1 90 rfl
theorem zw_102 : (Jvm.Cond.classLink "NeedMachine$Store" (22 : Nat) "java/util/ArrayList") ∈ zm_tb := zm_memT1 102 rfl
theorem zw_103 : (Jvm.Cond.instantiable "java/util/ArrayList" (3 : Nat)) ∈ zm_tb := zm_memT1 103 rfl
theorem zw_104 : (Jvm.Cond.methodLink "NeedMachine$Store" (24 : Nat) ({ cls := "java/util/ArrayList", name := "<init>", desc := "()V" } : Jvm.MethodName)) ∈ zm_tb := zm_memT1 104 rfl
theorem zw_105 : (Jvm.Cond.instanceMethod ({ cls := "java/util/ArrayList", name := "<init>", desc := "()V" } : Jvm.MethodName)) ∈ zm_tb := zm_memT1 105 rfl
theorem zw_106 : (Jvm.Cond.code ({ cls := "java/util/ArrayList", name := "<init>", desc := "()V" } : Jvm.MethodName) prog_26_method_2_code (1 : Nat) (Option.none : Option Jvm.ClassFile.FieldType)) ∈ zm_tb := zm_memT1 106 rfl
theorem zw_107 : (Jvm.Cond.methodLink "java/util/ArrayList" (1 : Nat) ({ cls := "java/util/AbstractList", name := "<init>", desc := "()V" } : Jvm.MethodName)) ∈ zm_tb := zm_memT1 107 rfl
theorem zw_108 : (Jvm.Cond.instanceMethod ({ cls := "java/util/AbstractList", name := "<init>", desc := "()V" } : Jvm.MethodName)) ∈ zm_tb := zm_memT1 108 rfl
theorem zw_109 : (Jvm.Cond.code ({ cls := "java/util/AbstractList", name := "<init>", desc := "()V" } : Jvm.MethodName) prog_25_method_1_code (1 : Nat) (Option.none : Option Jvm.ClassFile.FieldType)) ∈ zm_tb := zm_memT1 109 rfl
theorem zw_110 : (Jvm.Cond.methodLink "java/util/AbstractList" (1 : Nat) ({ cls := "java/util/AbstractCollection", name := "<init>", desc := "()V" } : Jvm.MethodName)) ∈ zm_tb := zm_memT1 110 rfl
theorem zw_111 : (Jvm.Cond.instanceMethod ({ cls := "java/util/AbstractCollection", name := "<init>", desc := "()V" } : Jvm.MethodName)) ∈ zm_tb := zm_memT1 111 rfl
theorem zw_112 : (Jvm.Cond.code ({ cls := "java/util/AbstractCollection", name := "<init>", desc := "()V" } : Jvm.MethodName) prog_24_method_1_code (1 : Nat) (Option.none : Option Jvm.ClassFile.FieldType)) ∈ zm_tb := zm_memT1 112 rfl
theorem zw_113 : (Jvm.Cond.methodLink "java/util/AbstractCollection" (1 : Nat) ({ cls := "java/lang/Object", name := "<init>", desc := "()V" } : Jvm.MethodName)) ∈ zm_tb := zm_memT1 113 rfl
theorem zw_114 : (Jvm.Cond.fieldLink "java/util/ArrayList" (39 : Nat) "java/util/ArrayList" "DEFAULTCAPACITY_EMPTY_ELEMENTDATA" "[Ljava/lang/Object;") ∈ zm_tb := zm_memT1 114 rfl
theorem zw_116 : (Jvm.Cond.fieldLink "java/util/ArrayList" (9 : Nat) "java/util/ArrayList" "elementData" "[Ljava/lang/Object;") ∈ zm_tb := zm_memT1 116 rfl
theorem zw_118 : (Jvm.Cond.fieldLink "java/util/AbstractList" (7 : Nat) "java/util/AbstractList" "modCount" "I") ∈ zm_tb := zm_memT1 118 rfl
theorem zw_128 : (Jvm.Cond.fieldLink "NeedMachine$Store" (12 : Nat) "NeedMachine$Store" "nil" "LNeedMachine$Value;") ∈ zm_tb := zm_memT1 128 rfl
theorem zw_129 : (Jvm.Cond.fieldLink "NeedMachine" (152 : Nat) "NeedMachine$Store" "nil" "LNeedMachine$Value;") ∈ zm_tb := zm_memT1 129 rfl
theorem zw_130 : (Jvm.Cond.fieldLink "NeedMachine$Store" (25 : Nat) "NeedMachine$Store" "values" "Ljava/util/ArrayList;") ∈ zm_tb := zm_memT1 130 rfl
theorem zw_131 : (Jvm.Cond.fieldLink "NeedMachine$Store" (29 : Nat) "NeedMachine$Store" "closures" "Ljava/util/ArrayList;") ∈ zm_tb := zm_memT1 131 rfl
theorem zw_132 : (Jvm.Cond.fieldLink "NeedMachine$Store" (32 : Nat) "NeedMachine$Store" "chains" "Ljava/util/ArrayList;") ∈ zm_tb := zm_memT1 132 rfl
theorem zw_133 : (Jvm.Cond.fieldLink "NeedMachine$Store" (35 : Nat) "NeedMachine$Store" "valuesUsed" "I") ∈ zm_tb := zm_memT1 133 rfl
theorem zw_134 : (Jvm.Cond.fieldLink "NeedMachine$Store" (38 : Nat) "NeedMachine$Store" "closuresUsed" "I") ∈ zm_tb := zm_memT1 134 rfl
theorem zw_135 : (Jvm.Cond.fieldLink "NeedMachine$Store" (41 : Nat) "NeedMachine$Store" "chainsUsed" "I") ∈ zm_tb := zm_memT1 135 rfl
theorem zw_151 : (Jvm.Cond.classLink "NeedMachine" (23 : Nat) "NeedMachine$Definition") ∈ zm_tb := zm_memT1 151 rfl
theorem zw_152 : (Jvm.Cond.arrayOver (Jvm.ClassFile.FieldType.object "NeedMachine$Definition")) ∈ zm_tb := zm_memT1 152 rfl
theorem zw_153 : (Jvm.Cond.fieldLink "NeedMachine" (10 : Nat) "NeedMachine" "text" "LNeedMachine$Text;") ∈ zm_tb := zm_memT1 153 rfl
theorem zw_154 : (Jvm.Cond.fieldLink "NeedMachine" (19 : Nat) "NeedMachine" "store" "LNeedMachine$Store;") ∈ zm_tb := zm_memT1 154 rfl
theorem zw_155 : (Jvm.Cond.fieldLink "NeedMachine" (25 : Nat) "NeedMachine" "definitions" "[LNeedMachine$Definition;") ∈ zm_tb := zm_memT1 155 rfl
theorem zw_156 : (Jvm.Cond.fieldLink "NeedMachine" (48 : Nat) "NeedMachine" "result" "LNeedMachine$Value;") ∈ zm_tb := zm_memT1 156 rfl
theorem zw_157 : (Jvm.Cond.fieldLink "NeedMachine" (55 : Nat) "NeedMachine" "calls" "I") ∈ zm_tb := zm_memT1 157 rfl
theorem zw_158 : (Jvm.Cond.fieldLink "NeedMachine" (115 : Nat) "NeedMachine" "callsOfAll" "I") ∈ zm_tb := zm_memT1 158 rfl
theorem zw_159 : (Jvm.Cond.fieldLink "NeedMachine" (118 : Nat) "NeedMachine" "forcedFirst" "I") ∈ zm_tb := zm_memT1 159 rfl
theorem zw_160 : (Jvm.Cond.fieldLink "NeedMachine" (121 : Nat) "NeedMachine" "forcedLater" "I") ∈ zm_tb := zm_memT1 160 rfl
theorem zw_161 : (Jvm.Cond.fieldLink "NeedMachine" (58 : Nat) "NeedMachine" "deepest" "I") ∈ zm_tb := zm_memT1 161 rfl
theorem zw_181 : (Jvm.Cond.methodLink "NeedMachineLaw" (78 : Nat) ({ cls := "NeedMachine", name := "count", desc := "(I)I" } : Jvm.MethodName)) ∈ zm_tb := zm_memT1 181 rfl
theorem zw_182 : (Jvm.Cond.instanceMethod ({ cls := "NeedMachine", name := "count", desc := "(I)I" } : Jvm.MethodName)) ∈ zm_tb := zm_memT1 182 rfl
theorem zw_183 : (Jvm.Cond.selects "NeedMachine" ({ cls := "NeedMachine", name := "count", desc := "(I)I" } : Jvm.MethodName) ({ cls := "NeedMachine", name := "count", desc := "(I)I" } : Jvm.MethodName)) ∈ zm_tb := zm_memT1 183 rfl
theorem zw_184 : (Jvm.Cond.code ({ cls := "NeedMachine", name := "count", desc := "(I)I" } : Jvm.MethodName) prog_1_method_9_code (2 : Nat) (Option.some Jvm.ClassFile.FieldType.int)) ∈ zm_tb := zm_memT1 184 rfl
theorem zw_185 : (Jvm.Cond.methodLink "NeedMachine" (111 : Nat) ({ cls := "NeedMachine", name := "countDefinitions", desc := "()I" } : Jvm.MethodName)) ∈ zm_tb := zm_memT1 185 rfl
theorem zw_187 : (Jvm.Cond.instanceMethod ({ cls := "NeedMachine", name := "countDefinitions", desc := "()I" } : Jvm.MethodName)) ∈ zm_tb := zm_memT1 187 rfl
theorem zw_188 : (Jvm.Cond.code ({ cls := "NeedMachine", name := "countDefinitions", desc := "()I" } : Jvm.MethodName) prog_1_method_10_code (6 : Nat) (Option.some Jvm.ClassFile.FieldType.int)) ∈ zm_tb := zm_memT1 188 rfl
theorem zw_189 : (Jvm.Cond.methodLink "NeedMachineLaw" (49 : Nat) ({ cls := "NeedMachineLaw", name := "type", desc := "(LNeedMachine;J[J)I" } : Jvm.MethodName)) ∈ zm_tb := zm_memT1 189 rfl
theorem zw_190 : (Jvm.Cond.static ({ cls := "NeedMachineLaw", name := "type", desc := "(LNeedMachine;J[J)I" } : Jvm.MethodName)) ∈ zm_tb := zm_memT1 190 rfl
theorem zw_191 : (Jvm.Cond.codeWith ({ cls := "NeedMachineLaw", name := "type", desc := "(LNeedMachine;J[J)I" } : Jvm.MethodName) method_3_code (5 : Nat) (Option.some Jvm.ClassFile.FieldType.int) [((0 : Nat), (9 : Nat), (12 : Nat), (13 : Nat)), ((0 : Nat), (9 : Nat), (16 : Nat), (15 : Nat))]) ∈ zm_tb := zm_memT1 191 rfl
theorem zw_192 : (Jvm.Cond.classLink "NeedMachineLaw" (13 : Nat) "java/lang/IllegalArgumentException") ∈ zm_tb := zm_memT1 192 rfl
theorem zw_193 : (Jvm.Cond.classLink "NeedMachineLaw" (15 : Nat) "java/lang/IllegalStateException") ∈ zm_tb := zm_memT1 193 rfl
theorem zw_194 : (Jvm.Cond.methodLink "NeedMachineLaw" (7 : Nat) ({ cls := "NeedMachine", name := "type", desc := "(J)I" } : Jvm.MethodName)) ∈ zm_tb := zm_memT1 194 rfl
theorem zw_195 : (Jvm.Cond.instanceMethod ({ cls := "NeedMachine", name := "type", desc := "(J)I" } : Jvm.MethodName)) ∈ zm_tb := zm_memT1 195 rfl
theorem zw_196 : (Jvm.Cond.selects "NeedMachine" ({ cls := "NeedMachine", name := "type", desc := "(J)I" } : Jvm.MethodName) ({ cls := "NeedMachine", name := "type", desc := "(J)I" } : Jvm.MethodName)) ∈ zm_tb := zm_memT1 196 rfl
theorem zw_197 : (Jvm.Cond.code ({ cls := "NeedMachine", name := "type", desc := "(J)I" } : Jvm.MethodName) prog_1_method_2_code (3 : Nat) (Option.some Jvm.ClassFile.FieldType.int)) ∈ zm_tb := zm_memT1 197 rfl
theorem zw_198 : (Jvm.Cond.methodLink "NeedMachine" (29 : Nat) ({ cls := "NeedMachine$Text", name := "add", desc := "(J)I" } : Jvm.MethodName)) ∈ zm_tb := zm_memT1 198 rfl
theorem zw_199 : (Jvm.Cond.instanceMethod ({ cls := "NeedMachine$Text", name := "add", desc := "(J)I" } : Jvm.MethodName)) ∈ zm_tb := zm_memT1 199 rfl
theorem zw_200 : (Jvm.Cond.selects "NeedMachine$Text" ({ cls := "NeedMachine$Text", name := "add", desc := "(J)I" } : Jvm.MethodName) ({ cls := "NeedMachine$Text", name := "add", desc := "(J)I" } : Jvm.MethodName)) ∈ zm_tb := zm_memT1 200 rfl
theorem zw_201 : (Jvm.Cond.code ({ cls := "NeedMachine$Text", name := "add", desc := "(J)I" } : Jvm.MethodName) prog_7_method_2_code (6 : Nat) (Option.some Jvm.ClassFile.FieldType.int)) ∈ zm_tb := zm_memT1 201 rfl
theorem zw_202 : (Jvm.Cond.methodLink "NeedMachine$Text" (22 : Nat) ({ cls := "NeedMachine$Text", name := "byteAt", desc := "(JI)I" } : Jvm.MethodName)) ∈ zm_tb := zm_memT1 202 rfl
theorem zw_203 : (Jvm.Cond.static ({ cls := "NeedMachine$Text", name := "byteAt", desc := "(JI)I" } : Jvm.MethodName)) ∈ zm_tb := zm_memT1 203 rfl
theorem zw_204 : (Jvm.Cond.code ({ cls := "NeedMachine$Text", name := "byteAt", desc := "(JI)I" } : Jvm.MethodName) prog_7_method_3_code (3 : Nat) (Option.some Jvm.ClassFile.FieldType.int)) ∈ zm_tb := zm_memT1 204 rfl
theorem zw_205 : (Jvm.Cond.classLink "NeedMachine$Text" (26 : Nat) "java/lang/IllegalArgumentException") ∈ zm_tb := zm_memT1 205 rfl
theorem zw_206 : (Jvm.Cond.instantiable "java/lang/IllegalArgumentException" (6 : Nat)) ∈ zm_tb := zm_memT1 206 rfl
theorem zw_207 : (Jvm.Cond.castable "java/lang/IllegalArgumentException" "java/lang/IllegalArgumentException") ∈ zm_tb := zm_memT1 207 rfl
theorem zw_248 : (Jvm.Cond.stringRef "NeedMachine$Text" (28 : Nat) "not a character of a text") ∈ zm_tb := zm_memT2 8 rfl
theorem zw_249 : (Jvm.Cond.methodLink "NeedMachine$Text" (30 : Nat) ({ cls := "java/lang/IllegalArgumentException", name := "<init>", desc := "(Ljava/lang/String;)V" } : Jvm.MethodName)) ∈ zm_tb := zm_memT2 9 rfl
theorem zw_275 : (Jvm.Cond.classLink "NeedMachine$Text" (36 : Nat) "java/lang/IllegalStateException") ∈ zm_tb := zm_memT2 35 rfl
theorem zw_276 : (Jvm.Cond.instantiable "java/lang/IllegalStateException" (6 : Nat)) ∈ zm_tb := zm_memT2 36 rfl
theorem zw_277 : (Jvm.Cond.castable "java/lang/IllegalStateException" "java/lang/IllegalStateException") ∈ zm_tb := zm_memT2 37 rfl
theorem zw_284 : (Jvm.Cond.stringRef "NeedMachine$Text" (38 : Nat) "the text would be too long") ∈ zm_tb := zm_memT2 44 rfl
theorem zw_285 : (Jvm.Cond.methodLink "NeedMachine$Text" (40 : Nat) ({ cls := "java/lang/IllegalStateException", name := "<init>", desc := "(Ljava/lang/String;)V" } : Jvm.MethodName)) ∈ zm_tb := zm_memT2 45 rfl
theorem zw_291 : (Jvm.Cond.methodLink "NeedMachineLaw" (58 : Nat) ({ cls := "NeedMachineLaw", name := "define", desc := "(LNeedMachine;[J)I" } : Jvm.MethodName)) ∈ zm_tb := zm_memT2 51 rfl
theorem zw_292 : (Jvm.Cond.static ({ cls := "NeedMachineLaw", name := "define", desc := "(LNeedMachine;[J)I" } : Jvm.MethodName)) ∈ zm_tb := zm_memT2 52 rfl
theorem zw_293 : (Jvm.Cond.codeWith ({ cls := "NeedMachineLaw", name := "define", desc := "(LNeedMachine;[J)I" } : Jvm.MethodName) method_4_code (3 : Nat) (Option.some Jvm.ClassFile.FieldType.int) [((0 : Nat), (8 : Nat), (11 : Nat), (13 : Nat))]) ∈ zm_tb := zm_memT2 53 rfl
theorem zw_294 : (Jvm.Cond.methodLink "NeedMachineLaw" (17 : Nat) ({ cls := "NeedMachine", name := "define", desc := "()I" } : Jvm.MethodName)) ∈ zm_tb := zm_memT2 54 rfl
theorem zw_295 : (Jvm.Cond.instanceMethod ({ cls := "NeedMachine", name := "define", desc := "()I" } : Jvm.MethodName)) ∈ zm_tb := zm_memT2 55 rfl
theorem zw_296 : (Jvm.Cond.selects "NeedMachine" ({ cls := "NeedMachine", name := "define", desc := "()I" } : Jvm.MethodName) ({ cls := "NeedMachine", name := "define", desc := "()I" } : Jvm.MethodName)) ∈ zm_tb := zm_memT2 56 rfl
theorem zw_297 : (Jvm.Cond.code ({ cls := "NeedMachine", name := "define", desc := "()I" } : Jvm.MethodName) prog_1_method_3_code (2 : Nat) (Option.some Jvm.ClassFile.FieldType.int)) ∈ zm_tb := zm_memT2 57 rfl
theorem zw_298 : (Jvm.Cond.methodLink "NeedMachine" (33 : Nat) ({ cls := "NeedMachine$Text", name := "readDefinition", desc := "()LNeedMachine$Definition;" } : Jvm.MethodName)) ∈ zm_tb := zm_memT2 58 rfl
theorem zw_299 : (Jvm.Cond.instanceMethod ({ cls := "NeedMachine$Text", name := "readDefinition", desc := "()LNeedMachine$Definition;" } : Jvm.MethodName)) ∈ zm_tb := zm_memT2 59 rfl
theorem zw_300 : (Jvm.Cond.selects "NeedMachine$Text" ({ cls := "NeedMachine$Text", name := "readDefinition", desc := "()LNeedMachine$Definition;" } : Jvm.MethodName) ({ cls := "NeedMachine$Text", name := "readDefinition", desc := "()LNeedMachine$Definition;" } : Jvm.MethodName)) ∈ zm_tb := zm_memT2 60 rfl
theorem zw_301 : (Jvm.Cond.code ({ cls := "NeedMachine$Text", name := "readDefinition", desc := "()LNeedMachine$Definition;" } : Jvm.MethodName) prog_7_method_4_code (2 : Nat) (Option.some (Jvm.ClassFile.FieldType.object "NeedMachine$Definition"))) ∈ zm_tb := zm_memT2 61 rfl
theorem zw_302 : (Jvm.Cond.methodLink "NeedMachine$Text" (41 : Nat) ({ cls := "NeedMachine$Text", name := "beginReading", desc := "()V" } : Jvm.MethodName)) ∈ zm_tb := zm_memT2 62 rfl
theorem zw_304 : (Jvm.Cond.instanceMethod ({ cls := "NeedMachine$Text", name := "beginReading", desc := "()V" } : Jvm.MethodName)) ∈ zm_tb := zm_memT2 64 rfl
theorem zw_305 : (Jvm.Cond.code ({ cls := "NeedMachine$Text", name := "beginReading", desc := "()V" } : Jvm.MethodName) prog_7_method_6_code (1 : Nat) (Option.none : Option Jvm.ClassFile.FieldType)) ∈ zm_tb := zm_memT2 65 rfl
theorem zw_306 : (Jvm.Cond.methodLink "NeedMachine$Text" (50 : Nat) ({ cls := "NeedMachine$Text", name := "isName", desc := "(C)Z" } : Jvm.MethodName)) ∈ zm_tb := zm_memT2 66 rfl
theorem zw_307 : (Jvm.Cond.static ({ cls := "NeedMachine$Text", name := "isName", desc := "(C)Z" } : Jvm.MethodName)) ∈ zm_tb := zm_memT2 67 rfl
theorem zw_308 : (Jvm.Cond.code ({ cls := "NeedMachine$Text", name := "isName", desc := "(C)Z" } : Jvm.MethodName) prog_7_method_16_code (1 : Nat) (Option.some Jvm.ClassFile.FieldType.boolean)) ∈ zm_tb := zm_memT2 68 rfl
theorem zw_309 : (Jvm.Cond.methodLink "NeedMachine$Text" (54 : Nat) ({ cls := "NeedMachine$Text", name := "refuseUnless", desc := "(Z)V" } : Jvm.MethodName)) ∈ zm_tb := zm_memT2 69 rfl
theorem zw_311 : (Jvm.Cond.instanceMethod ({ cls := "NeedMachine$Text", name := "refuseUnless", desc := "(Z)V" } : Jvm.MethodName)) ∈ zm_tb := zm_memT2 71 rfl
theorem zw_312 : (Jvm.Cond.code ({ cls := "NeedMachine$Text", name := "refuseUnless", desc := "(Z)V" } : Jvm.MethodName) prog_7_method_18_code (2 : Nat) (Option.none : Option Jvm.ClassFile.FieldType)) ∈ zm_tb := zm_memT2 72 rfl
theorem zw_313 : (Jvm.Cond.stringRef "NeedMachine$Text" (109 : Nat) "the text cannot be read") ∈ zm_tb := zm_memT2 73 rfl
theorem zw_314 : (Jvm.Cond.methodLink "NeedMachine$Text" (58 : Nat) ({ cls := "NeedMachine$Text", name := "readParameters", desc := "()V" } : Jvm.MethodName)) ∈ zm_tb := zm_memT2 74 rfl
theorem zw_316 : (Jvm.Cond.instanceMethod ({ cls := "NeedMachine$Text", name := "readParameters", desc := "()V" } : Jvm.MethodName)) ∈ zm_tb := zm_memT2 76 rfl
theorem zw_317 : (Jvm.Cond.code ({ cls := "NeedMachine$Text", name := "readParameters", desc := "()V" } : Jvm.MethodName) prog_7_method_7_code (1 : Nat) (Option.none : Option Jvm.ClassFile.FieldType)) ∈ zm_tb := zm_memT2 77 rfl
theorem zw_318 : (Jvm.Cond.methodLink "NeedMachine$Text" (73 : Nat) ({ cls := "NeedMachine$Text", name := "isNewParameter", desc := "(C)Z" } : Jvm.MethodName)) ∈ zm_tb := zm_memT2 78 rfl
theorem zw_320 : (Jvm.Cond.instanceMethod ({ cls := "NeedMachine$Text", name := "isNewParameter", desc := "(C)Z" } : Jvm.MethodName)) ∈ zm_tb := zm_memT2 80 rfl
theorem zw_321 : (Jvm.Cond.code ({ cls := "NeedMachine$Text", name := "isNewParameter", desc := "(C)Z" } : Jvm.MethodName) prog_7_method_13_code (2 : Nat) (Option.some Jvm.ClassFile.FieldType.boolean)) ∈ zm_tb := zm_memT2 81 rfl
theorem zw_322 : (Jvm.Cond.methodLink "NeedMachine$Text" (103 : Nat) ({ cls := "NeedMachine$Text", name := "parameterIndex", desc := "(C)I" } : Jvm.MethodName)) ∈ zm_tb := zm_memT2 82 rfl
theorem zw_324 : (Jvm.Cond.instanceMethod ({ cls := "NeedMachine$Text", name := "parameterIndex", desc := "(C)I" } : Jvm.MethodName)) ∈ zm_tb := zm_memT2 84 rfl
theorem zw_325 : (Jvm.Cond.code ({ cls := "NeedMachine$Text", name := "parameterIndex", desc := "(C)I" } : Jvm.MethodName) prog_7_method_14_code (3 : Nat) (Option.some Jvm.ClassFile.FieldType.int)) ∈ zm_tb := zm_memT2 85 rfl
theorem zw_326 : (Jvm.Cond.classLink "NeedMachine$Text" (61 : Nat) "NeedMachine$Definition") ∈ zm_tb := zm_memT2 86 rfl
theorem zw_327 : (Jvm.Cond.instantiable "NeedMachine$Definition" (3 : Nat)) ∈ zm_tb := zm_memT2 87 rfl
theorem zw_328 : (Jvm.Cond.methodLink "NeedMachine$Text" (66 : Nat) ({ cls := "NeedMachine$Text", name := "readToTheEnd", desc := "()LNeedMachine$Expression;" } : Jvm.MethodName)) ∈ zm_tb := zm_memT2 88 rfl
theorem zw_330 : (Jvm.Cond.instanceMethod ({ cls := "NeedMachine$Text", name := "readToTheEnd", desc := "()LNeedMachine$Expression;" } : Jvm.MethodName)) ∈ zm_tb := zm_memT2 90 rfl
theorem zw_331 : (Jvm.Cond.code ({ cls := "NeedMachine$Text", name := "readToTheEnd", desc := "()LNeedMachine$Expression;" } : Jvm.MethodName) prog_7_method_8_code (2 : Nat) (Option.some (Jvm.ClassFile.FieldType.object "NeedMachine$Expression"))) ∈ zm_tb := zm_memT2 91 rfl
theorem zw_332 : (Jvm.Cond.methodLink "NeedMachine$Text" (79 : Nat) ({ cls := "NeedMachine$Text", name := "readExpression", desc := "(I)LNeedMachine$Expression;" } : Jvm.MethodName)) ∈ zm_tb := zm_memT2 92 rfl
theorem zw_334 : (Jvm.Cond.instanceMethod ({ cls := "NeedMachine$Text", name := "readExpression", desc := "(I)LNeedMachine$Expression;" } : Jvm.MethodName)) ∈ zm_tb := zm_memT2 94 rfl
theorem zw_335 : (Jvm.Cond.code ({ cls := "NeedMachine$Text", name := "readExpression", desc := "(I)LNeedMachine$Expression;" } : Jvm.MethodName) prog_7_method_9_code (7 : Nat) (Option.some (Jvm.ClassFile.FieldType.object "NeedMachine$Expression"))) ∈ zm_tb := zm_memT2 95 rfl
theorem zw_336 : (Jvm.Cond.methodLink "NeedMachine$Text" (83 : Nat) ({ cls := "NeedMachine$Text", name := "canStand", desc := "(CI)Z" } : Jvm.MethodName)) ∈ zm_tb := zm_memT2 96 rfl
theorem zw_338 : (Jvm.Cond.instanceMethod ({ cls := "NeedMachine$Text", name := "canStand", desc := "(CI)Z" } : Jvm.MethodName)) ∈ zm_tb := zm_memT2 98 rfl
theorem zw_339 : (Jvm.Cond.code ({ cls := "NeedMachine$Text", name := "canStand", desc := "(CI)Z" } : Jvm.MethodName) prog_7_method_11_code (4 : Nat) (Option.some Jvm.ClassFile.FieldType.boolean)) ∈ zm_tb := zm_memT2 99 rfl
theorem zw_340 : (Jvm.Cond.methodLink "NeedMachine$Text" (87 : Nat) ({ cls := "NeedMachine$Text", name := "partsOf", desc := "(C)I" } : Jvm.MethodName)) ∈ zm_tb := zm_memT2 100 rfl
theorem zw_341 : (Jvm.Cond.static ({ cls := "NeedMachine$Text", name := "partsOf", desc := "(C)I" } : Jvm.MethodName)) ∈ zm_tb := zm_memT2 101 rfl
theorem zw_342 : (Jvm.Cond.code ({ cls := "NeedMachine$Text", name := "partsOf", desc := "(C)I" } : Jvm.MethodName) prog_7_method_17_code (1 : Nat) (Option.some Jvm.ClassFile.FieldType.int)) ∈ zm_tb := zm_memT2 102 rfl
theorem zw_343 : (Jvm.Cond.methodLink "NeedMachine$Text" (106 : Nat) ({ cls := "NeedMachine$Text", name := "isLeaf", desc := "(C)Z" } : Jvm.MethodName)) ∈ zm_tb := zm_memT2 103 rfl
theorem zw_345 : (Jvm.Cond.instanceMethod ({ cls := "NeedMachine$Text", name := "isLeaf", desc := "(C)Z" } : Jvm.MethodName)) ∈ zm_tb := zm_memT2 105 rfl
theorem zw_346 : (Jvm.Cond.code ({ cls := "NeedMachine$Text", name := "isLeaf", desc := "(C)Z" } : Jvm.MethodName) prog_7_method_12_code (2 : Nat) (Option.some Jvm.ClassFile.FieldType.boolean)) ∈ zm_tb := zm_memT2 106 rfl
theorem zw_347 : (Jvm.Cond.methodLink "NeedMachine$Text" (100 : Nat) ({ cls := "NeedMachine$Text", name := "isDigit", desc := "(C)Z" } : Jvm.MethodName)) ∈ zm_tb := zm_memT2 107 rfl
theorem zw_348 : (Jvm.Cond.static ({ cls := "NeedMachine$Text", name := "isDigit", desc := "(C)Z" } : Jvm.MethodName)) ∈ zm_tb := zm_memT2 108 rfl
theorem zw_349 : (Jvm.Cond.code ({ cls := "NeedMachine$Text", name := "isDigit", desc := "(C)Z" } : Jvm.MethodName) prog_7_method_15_code (1 : Nat) (Option.some Jvm.ClassFile.FieldType.boolean)) ∈ zm_tb := zm_memT2 109 rfl
theorem zw_350 : (Jvm.Cond.methodLink "NeedMachine$Text" (91 : Nat) ({ cls := "NeedMachine$Text", name := "readLeaf", desc := "(C)LNeedMachine$Expression;" } : Jvm.MethodName)) ∈ zm_tb := zm_memT2 110 rfl
theorem zw_352 : (Jvm.Cond.instanceMethod ({ cls := "NeedMachine$Text", name := "readLeaf", desc := "(C)LNeedMachine$Expression;" } : Jvm.MethodName)) ∈ zm_tb := zm_memT2 112 rfl
theorem zw_353 : (Jvm.Cond.code ({ cls := "NeedMachine$Text", name := "readLeaf", desc := "(C)LNeedMachine$Expression;" } : Jvm.MethodName) prog_7_method_10_code (3 : Nat) (Option.some (Jvm.ClassFile.FieldType.object "NeedMachine$Expression"))) ∈ zm_tb := zm_memT2 113 rfl
theorem zw_354 : (Jvm.Cond.classLink "NeedMachine$Text" (95 : Nat) "NeedMachine$Expression") ∈ zm_tb := zm_memT2 114 rfl
theorem zw_355 : (Jvm.Cond.instantiable "NeedMachine$Expression" (5 : Nat)) ∈ zm_tb := zm_memT2 115 rfl
theorem zw_356 : (Jvm.Cond.methodLink "NeedMachine$Text" (97 : Nat) ({ cls := "NeedMachine$Expression", name := "<init>", desc := "(CILNeedMachine$Expression;LNeedMachine$Expression;LNeedMachine$Expression;)V" } : Jvm.MethodName)) ∈ zm_tb := zm_memT2 116 rfl
theorem zw_357 : (Jvm.Cond.instanceMethod ({ cls := "NeedMachine$Expression", name := "<init>", desc := "(CILNeedMachine$Expression;LNeedMachine$Expression;LNeedMachine$Expression;)V" } : Jvm.MethodName)) ∈ zm_tb := zm_memT2 117 rfl
theorem zw_358 : (Jvm.Cond.code ({ cls := "NeedMachine$Expression", name := "<init>", desc := "(CILNeedMachine$Expression;LNeedMachine$Expression;LNeedMachine$Expression;)V" } : Jvm.MethodName) prog_5_method_1_code (6 : Nat) (Option.none : Option Jvm.ClassFile.FieldType)) ∈ zm_tb := zm_memT2 118 rfl
theorem zw_359 : (Jvm.Cond.methodLink "NeedMachine$Expression" (1 : Nat) ({ cls := "java/lang/Object", name := "<init>", desc := "()V" } : Jvm.MethodName)) ∈ zm_tb := zm_memT2 119 rfl
theorem zw_360 : (Jvm.Cond.fieldLink "NeedMachine$Expression" (7 : Nat) "NeedMachine$Expression" "sign" "C") ∈ zm_tb := zm_memT2 120 rfl
theorem zw_361 : (Jvm.Cond.fieldLink "NeedMachine" (139 : Nat) "NeedMachine$Expression" "sign" "C") ∈ zm_tb := zm_memT2 121 rfl
theorem zw_362 : (Jvm.Cond.fieldLink "NeedMachine$Expression" (13 : Nat) "NeedMachine$Expression" "index" "I") ∈ zm_tb := zm_memT2 122 rfl
theorem zw_363 : (Jvm.Cond.fieldLink "NeedMachine" (145 : Nat) "NeedMachine$Expression" "index" "I") ∈ zm_tb := zm_memT2 123 rfl
theorem zw_364 : (Jvm.Cond.fieldLink "NeedMachine$Expression" (17 : Nat) "NeedMachine$Expression" "first" "LNeedMachine$Expression;") ∈ zm_tb := zm_memT2 124 rfl
theorem zw_365 : (Jvm.Cond.fieldLink "NeedMachine" (163 : Nat) "NeedMachine$Expression" "first" "LNeedMachine$Expression;") ∈ zm_tb := zm_memT2 125 rfl
theorem zw_366 : (Jvm.Cond.fieldLink "NeedMachine$Expression" (21 : Nat) "NeedMachine$Expression" "second" "LNeedMachine$Expression;") ∈ zm_tb := zm_memT2 126 rfl
theorem zw_367 : (Jvm.Cond.fieldLink "NeedMachine" (171 : Nat) "NeedMachine$Expression" "second" "LNeedMachine$Expression;") ∈ zm_tb := zm_memT2 127 rfl
theorem zw_368 : (Jvm.Cond.fieldLink "NeedMachine$Expression" (24 : Nat) "NeedMachine$Expression" "third" "LNeedMachine$Expression;") ∈ zm_tb := zm_memT2 128 rfl
theorem zw_369 : (Jvm.Cond.fieldLink "NeedMachine" (224 : Nat) "NeedMachine$Expression" "third" "LNeedMachine$Expression;") ∈ zm_tb := zm_memT2 129 rfl
theorem zw_381 : (Jvm.Cond.methodLink "NeedMachine$Text" (70 : Nat) ({ cls := "NeedMachine$Definition", name := "<init>", desc := "(IILNeedMachine$Expression;)V" } : Jvm.MethodName)) ∈ zm_tb := zm_memT2 141 rfl
theorem zw_382 : (Jvm.Cond.instanceMethod ({ cls := "NeedMachine$Definition", name := "<init>", desc := "(IILNeedMachine$Expression;)V" } : Jvm.MethodName)) ∈ zm_tb := zm_memT2 142 rfl
theorem zw_383 : (Jvm.Cond.code ({ cls := "NeedMachine$Definition", name := "<init>", desc := "(IILNeedMachine$Expression;)V" } : Jvm.MethodName) prog_4_method_1_code (4 : Nat) (Option.none : Option Jvm.ClassFile.FieldType)) ∈ zm_tb := zm_memT2 143 rfl
theorem zw_384 : (Jvm.Cond.methodLink "NeedMachine$Definition" (1 : Nat) ({ cls := "java/lang/Object", name := "<init>", desc := "()V" } : Jvm.MethodName)) ∈ zm_tb := zm_memT2 144 rfl
theorem zw_385 : (Jvm.Cond.fieldLink "NeedMachine$Definition" (7 : Nat) "NeedMachine$Definition" "name" "I") ∈ zm_tb := zm_memT2 145 rfl
theorem zw_386 : (Jvm.Cond.fieldLink "NeedMachine" (37 : Nat) "NeedMachine$Definition" "name" "I") ∈ zm_tb := zm_memT2 146 rfl
theorem zw_387 : (Jvm.Cond.fieldLink "NeedMachine$Definition" (13 : Nat) "NeedMachine$Definition" "parameters" "I") ∈ zm_tb := zm_memT2 147 rfl
theorem zw_388 : (Jvm.Cond.fieldLink "NeedMachine" (41 : Nat) "NeedMachine$Definition" "parameters" "I") ∈ zm_tb := zm_memT2 148 rfl
theorem zw_389 : (Jvm.Cond.fieldLink "NeedMachine$Definition" (16 : Nat) "NeedMachine$Definition" "body" "LNeedMachine$Expression;") ∈ zm_tb := zm_memT2 149 rfl
theorem zw_390 : (Jvm.Cond.fieldLink "NeedMachine" (221 : Nat) "NeedMachine$Definition" "body" "LNeedMachine$Expression;") ∈ zm_tb := zm_memT2 150 rfl
theorem zw_398 : (Jvm.Cond.methodLink "NeedMachineLaw" (62 : Nat) ({ cls := "NeedMachineLaw", name := "ask", desc := "(LNeedMachine;[J)I" } : Jvm.MethodName)) ∈ zm_tb := zm_memT2 158 rfl
theorem zw_399 : (Jvm.Cond.static ({ cls := "NeedMachineLaw", name := "ask", desc := "(LNeedMachine;[J)I" } : Jvm.MethodName)) ∈ zm_tb := zm_memT2 159 rfl
theorem zw_400 : (Jvm.Cond.codeWith ({ cls := "NeedMachineLaw", name := "ask", desc := "(LNeedMachine;[J)I" } : Jvm.MethodName) method_5_code (3 : Nat) (Option.some Jvm.ClassFile.FieldType.int) [((0 : Nat), (8 : Nat), (11 : Nat), (13 : Nat)), ((0 : Nat), (8 : Nat), (14 : Nat), (24 : Nat)), ((0 : Nat), (8 : Nat), (17 : Nat), (26 : Nat)), ((0 : Nat), (8 : Nat), (20 : Nat), (15 : Nat)), ((0 : Nat), (8 : Nat), (23 : Nat), (28 : Nat))]) ∈ zm_tb := zm_memT2 160 rfl
theorem zw_401 : (Jvm.Cond.classLink "NeedMachineLaw" (24 : Nat) "java/util/NoSuchElementException") ∈ zm_tb := zm_memT2 161 rfl
theorem zw_402 : (Jvm.Cond.classLink "NeedMachineLaw" (26 : Nat) "java/lang/ArithmeticException") ∈ zm_tb := zm_memT2 162 rfl
theorem zw_403 : (Jvm.Cond.classLink "NeedMachineLaw" (28 : Nat) "java/lang/UnsupportedOperationException") ∈ zm_tb := zm_memT2 163 rfl
theorem zw_404 : (Jvm.Cond.methodLink "NeedMachineLaw" (21 : Nat) ({ cls := "NeedMachine", name := "ask", desc := "()I" } : Jvm.MethodName)) ∈ zm_tb := zm_memT2 164 rfl
theorem zw_405 : (Jvm.Cond.instanceMethod ({ cls := "NeedMachine", name := "ask", desc := "()I" } : Jvm.MethodName)) ∈ zm_tb := zm_memT2 165 rfl
theorem zw_406 : (Jvm.Cond.selects "NeedMachine" ({ cls := "NeedMachine", name := "ask", desc := "()I" } : Jvm.MethodName) ({ cls := "NeedMachine", name := "ask", desc := "()I" } : Jvm.MethodName)) ∈ zm_tb := zm_memT2 166 rfl
theorem zw_407 : (Jvm.Cond.code ({ cls := "NeedMachine", name := "ask", desc := "()I" } : Jvm.MethodName) prog_1_method_4_code (2 : Nat) (Option.some Jvm.ClassFile.FieldType.int)) ∈ zm_tb := zm_memT2 167 rfl
theorem zw_408 : (Jvm.Cond.methodLink "NeedMachine" (44 : Nat) ({ cls := "NeedMachine$Text", name := "readAsked", desc := "()LNeedMachine$Expression;" } : Jvm.MethodName)) ∈ zm_tb := zm_memT2 168 rfl
theorem zw_409 : (Jvm.Cond.instanceMethod ({ cls := "NeedMachine$Text", name := "readAsked", desc := "()LNeedMachine$Expression;" } : Jvm.MethodName)) ∈ zm_tb := zm_memT2 169 rfl
theorem zw_410 : (Jvm.Cond.selects "NeedMachine$Text" ({ cls := "NeedMachine$Text", name := "readAsked", desc := "()LNeedMachine$Expression;" } : Jvm.MethodName) ({ cls := "NeedMachine$Text", name := "readAsked", desc := "()LNeedMachine$Expression;" } : Jvm.MethodName)) ∈ zm_tb := zm_memT2 170 rfl
theorem zw_411 : (Jvm.Cond.code ({ cls := "NeedMachine$Text", name := "readAsked", desc := "()LNeedMachine$Expression;" } : Jvm.MethodName) prog_7_method_5_code (1 : Nat) (Option.some (Jvm.ClassFile.FieldType.object "NeedMachine$Expression"))) ∈ zm_tb := zm_memT2 171 rfl
theorem zw_412 : (Jvm.Cond.methodLink "NeedMachine" (52 : Nat) ({ cls := "NeedMachine$Store", name := "takeAllBack", desc := "()V" } : Jvm.MethodName)) ∈ zm_tb := zm_memT2 172 rfl
theorem zw_413 : (Jvm.Cond.instanceMethod ({ cls := "NeedMachine$Store", name := "takeAllBack", desc := "()V" } : Jvm.MethodName)) ∈ zm_tb := zm_memT2 173 rfl
theorem zw_414 : (Jvm.Cond.selects "NeedMachine$Store" ({ cls := "NeedMachine$Store", name := "takeAllBack", desc := "()V" } : Jvm.MethodName) ({ cls := "NeedMachine$Store", name := "takeAllBack", desc := "()V" } : Jvm.MethodName)) ∈ zm_tb := zm_memT2 174 rfl
theorem zw_415 : (Jvm.Cond.code ({ cls := "NeedMachine$Store", name := "takeAllBack", desc := "()V" } : Jvm.MethodName) prog_6_method_2_code (1 : Nat) (Option.none : Option Jvm.ClassFile.FieldType)) ∈ zm_tb := zm_memT2 175 rfl
theorem zw_416 : (Jvm.Cond.methodLink "NeedMachine" (61 : Nat) ({ cls := "NeedMachine", name := "work", desc := "(LNeedMachine$Expression;LNeedMachine$Arguments;I)LNeedMachine$Value;" } : Jvm.MethodName)) ∈ zm_tb := zm_memT2 176 rfl
theorem zw_418 : (Jvm.Cond.instanceMethod ({ cls := "NeedMachine", name := "work", desc := "(LNeedMachine$Expression;LNeedMachine$Arguments;I)LNeedMachine$Value;" } : Jvm.MethodName)) ∈ zm_tb := zm_memT2 178 rfl
theorem zw_419 : (Jvm.Cond.code ({ cls := "NeedMachine", name := "work", desc := "(LNeedMachine$Expression;LNeedMachine$Arguments;I)LNeedMachine$Value;" } : Jvm.MethodName) prog_1_method_12_code (4 : Nat) (Option.some (Jvm.ClassFile.FieldType.object "NeedMachine$Value"))) ∈ zm_tb := zm_memT2 179 rfl
theorem zw_420 : (Jvm.Cond.classLink "NeedMachine" (128 : Nat) "java/lang/IllegalStateException") ∈ zm_tb := zm_memT2 180 rfl
theorem zw_421 : (Jvm.Cond.stringRef "NeedMachine" (130 : Nat) "working out stands too deep") ∈ zm_tb := zm_memT2 181 rfl
theorem zw_422 : (Jvm.Cond.methodLink "NeedMachine" (132 : Nat) ({ cls := "java/lang/IllegalStateException", name := "<init>", desc := "(Ljava/lang/String;)V" } : Jvm.MethodName)) ∈ zm_tb := zm_memT2 182 rfl
theorem zw_426 : (Jvm.Cond.methodLink "NeedMachine" (148 : Nat) ({ cls := "NeedMachine$Store", name := "makeNumber", desc := "(I)LNeedMachine$Value;" } : Jvm.MethodName)) ∈ zm_tb := zm_memT2 186 rfl
theorem zw_427 : (Jvm.Cond.instanceMethod ({ cls := "NeedMachine$Store", name := "makeNumber", desc := "(I)LNeedMachine$Value;" } : Jvm.MethodName)) ∈ zm_tb := zm_memT2 187 rfl
theorem zw_428 : (Jvm.Cond.selects "NeedMachine$Store" ({ cls := "NeedMachine$Store", name := "makeNumber", desc := "(I)LNeedMachine$Value;" } : Jvm.MethodName) ({ cls := "NeedMachine$Store", name := "makeNumber", desc := "(I)LNeedMachine$Value;" } : Jvm.MethodName)) ∈ zm_tb := zm_memT2 188 rfl
theorem zw_429 : (Jvm.Cond.code ({ cls := "NeedMachine$Store", name := "makeNumber", desc := "(I)LNeedMachine$Value;" } : Jvm.MethodName) prog_6_method_3_code (3 : Nat) (Option.some (Jvm.ClassFile.FieldType.object "NeedMachine$Value"))) ∈ zm_tb := zm_memT2 189 rfl
theorem zw_430 : (Jvm.Cond.methodLink "NeedMachine$Store" (44 : Nat) ({ cls := "NeedMachine$Store", name := "nextValue", desc := "(I)LNeedMachine$Value;" } : Jvm.MethodName)) ∈ zm_tb := zm_memT2 190 rfl
theorem zw_432 : (Jvm.Cond.instanceMethod ({ cls := "NeedMachine$Store", name := "nextValue", desc := "(I)LNeedMachine$Value;" } : Jvm.MethodName)) ∈ zm_tb := zm_memT2 192 rfl
theorem zw_433 : (Jvm.Cond.code ({ cls := "NeedMachine$Store", name := "nextValue", desc := "(I)LNeedMachine$Value;" } : Jvm.MethodName) prog_6_method_8_code (3 : Nat) (Option.some (Jvm.ClassFile.FieldType.object "NeedMachine$Value"))) ∈ zm_tb := zm_memT2 193 rfl
theorem zw_512 : (Jvm.Cond.methodLink "NeedMachine" (155 : Nat) ({ cls := "NeedMachine", name := "argumentAt", desc := "(LNeedMachine$Arguments;I)LNeedMachine$Closure;" } : Jvm.MethodName)) ∈ zm_tb := zm_memT3 32 rfl
theorem zw_513 : (Jvm.Cond.static ({ cls := "NeedMachine", name := "argumentAt", desc := "(LNeedMachine$Arguments;I)LNeedMachine$Closure;" } : Jvm.MethodName)) ∈ zm_tb := zm_memT3 33 rfl
theorem zw_514 : (Jvm.Cond.code ({ cls := "NeedMachine", name := "argumentAt", desc := "(LNeedMachine$Arguments;I)LNeedMachine$Closure;" } : Jvm.MethodName) prog_1_method_22_code (3 : Nat) (Option.some (Jvm.ClassFile.FieldType.object "NeedMachine$Closure"))) ∈ zm_tb := zm_memT3 34 rfl
theorem zw_515 : (Jvm.Cond.stringRef "NeedMachine" (265 : Nat) "the parameter has no argument") ∈ zm_tb := zm_memT3 35 rfl
theorem zw_516 : (Jvm.Cond.methodLink "NeedMachine" (89 : Nat) ({ cls := "NeedMachine", name := "force", desc := "(LNeedMachine$Closure;I)LNeedMachine$Value;" } : Jvm.MethodName)) ∈ zm_tb := zm_memT3 36 rfl
theorem zw_518 : (Jvm.Cond.instanceMethod ({ cls := "NeedMachine", name := "force", desc := "(LNeedMachine$Closure;I)LNeedMachine$Value;" } : Jvm.MethodName)) ∈ zm_tb := zm_memT3 38 rfl
theorem zw_519 : (Jvm.Cond.code ({ cls := "NeedMachine", name := "force", desc := "(LNeedMachine$Closure;I)LNeedMachine$Value;" } : Jvm.MethodName) prog_1_method_19_code (4 : Nat) (Option.some (Jvm.ClassFile.FieldType.object "NeedMachine$Value"))) ∈ zm_tb := zm_memT3 39 rfl
theorem zw_520 : (Jvm.Cond.methodLink "NeedMachine" (241 : Nat) ({ cls := "NeedMachine", name := "mustBeWorkedOut", desc := "(LNeedMachine$Closure;)LNeedMachine$Value;" } : Jvm.MethodName)) ∈ zm_tb := zm_memT3 40 rfl
theorem zw_521 : (Jvm.Cond.static ({ cls := "NeedMachine", name := "mustBeWorkedOut", desc := "(LNeedMachine$Closure;)LNeedMachine$Value;" } : Jvm.MethodName)) ∈ zm_tb := zm_memT3 41 rfl
theorem zw_522 : (Jvm.Cond.code ({ cls := "NeedMachine", name := "mustBeWorkedOut", desc := "(LNeedMachine$Closure;)LNeedMachine$Value;" } : Jvm.MethodName) prog_1_method_23_code (1 : Nat) (Option.some (Jvm.ClassFile.FieldType.object "NeedMachine$Value"))) ∈ zm_tb := zm_memT3 42 rfl
theorem zw_523 : (Jvm.Cond.stringRef "NeedMachine" (267 : Nat) "the closure needs itself") ∈ zm_tb := zm_memT3 43 rfl
theorem zw_524 : (Jvm.Cond.methodLink "NeedMachine" (159 : Nat) ({ cls := "NeedMachine", name := "workName", desc := "(II)LNeedMachine$Value;" } : Jvm.MethodName)) ∈ zm_tb := zm_memT3 44 rfl
theorem zw_526 : (Jvm.Cond.instanceMethod ({ cls := "NeedMachine", name := "workName", desc := "(II)LNeedMachine$Value;" } : Jvm.MethodName)) ∈ zm_tb := zm_memT3 46 rfl
theorem zw_527 : (Jvm.Cond.code ({ cls := "NeedMachine", name := "workName", desc := "(II)LNeedMachine$Value;" } : Jvm.MethodName) prog_1_method_13_code (4 : Nat) (Option.some (Jvm.ClassFile.FieldType.object "NeedMachine$Value"))) ∈ zm_tb := zm_memT3 47 rfl
theorem zw_528 : (Jvm.Cond.methodLink "NeedMachine" (101 : Nat) ({ cls := "NeedMachine", name := "definitionOf", desc := "(I)LNeedMachine$Definition;" } : Jvm.MethodName)) ∈ zm_tb := zm_memT3 48 rfl
theorem zw_530 : (Jvm.Cond.instanceMethod ({ cls := "NeedMachine", name := "definitionOf", desc := "(I)LNeedMachine$Definition;" } : Jvm.MethodName)) ∈ zm_tb := zm_memT3 50 rfl
theorem zw_531 : (Jvm.Cond.code ({ cls := "NeedMachine", name := "definitionOf", desc := "(I)LNeedMachine$Definition;" } : Jvm.MethodName) prog_1_method_21_code (3 : Nat) (Option.some (Jvm.ClassFile.FieldType.object "NeedMachine$Definition"))) ∈ zm_tb := zm_memT3 51 rfl
theorem zw_532 : (Jvm.Cond.classLink "NeedMachine" (70 : Nat) "java/util/NoSuchElementException") ∈ zm_tb := zm_memT3 52 rfl
theorem zw_533 : (Jvm.Cond.instantiable "java/util/NoSuchElementException" (6 : Nat)) ∈ zm_tb := zm_memT3 53 rfl
theorem zw_534 : (Jvm.Cond.castable "java/util/NoSuchElementException" "java/util/NoSuchElementException") ∈ zm_tb := zm_memT3 54 rfl
theorem zw_541 : (Jvm.Cond.stringRef "NeedMachine" (257 : Nat) "the name has no definition") ∈ zm_tb := zm_memT3 61 rfl
theorem zw_542 : (Jvm.Cond.methodLink "NeedMachine" (74 : Nat) ({ cls := "java/util/NoSuchElementException", name := "<init>", desc := "(Ljava/lang/String;)V" } : Jvm.MethodName)) ∈ zm_tb := zm_memT3 62 rfl
theorem zw_548 : (Jvm.Cond.methodLink "NeedMachine" (190 : Nat) ({ cls := "NeedMachine", name := "call", desc := "(LNeedMachine$Definition;LNeedMachine$Arguments;I)LNeedMachine$Value;" } : Jvm.MethodName)) ∈ zm_tb := zm_memT3 68 rfl
theorem zw_550 : (Jvm.Cond.instanceMethod ({ cls := "NeedMachine", name := "call", desc := "(LNeedMachine$Definition;LNeedMachine$Arguments;I)LNeedMachine$Value;" } : Jvm.MethodName)) ∈ zm_tb := zm_memT3 70 rfl
theorem zw_551 : (Jvm.Cond.code ({ cls := "NeedMachine", name := "call", desc := "(LNeedMachine$Definition;LNeedMachine$Arguments;I)LNeedMachine$Value;" } : Jvm.MethodName) prog_1_method_15_code (4 : Nat) (Option.some (Jvm.ClassFile.FieldType.object "NeedMachine$Value"))) ∈ zm_tb := zm_memT3 71 rfl
theorem zw_552 : (Jvm.Cond.stringRef "NeedMachine" (219 : Nat) "too many calls in one asking") ∈ zm_tb := zm_memT3 72 rfl
theorem zw_553 : (Jvm.Cond.methodLink "NeedMachine" (194 : Nat) ({ cls := "NeedMachine$Store", name := "makeFunction", desc := "(ILNeedMachine$Arguments;)LNeedMachine$Value;" } : Jvm.MethodName)) ∈ zm_tb := zm_memT3 73 rfl
theorem zw_554 : (Jvm.Cond.instanceMethod ({ cls := "NeedMachine$Store", name := "makeFunction", desc := "(ILNeedMachine$Arguments;)LNeedMachine$Value;" } : Jvm.MethodName)) ∈ zm_tb := zm_memT3 74 rfl
theorem zw_555 : (Jvm.Cond.selects "NeedMachine$Store" ({ cls := "NeedMachine$Store", name := "makeFunction", desc := "(ILNeedMachine$Arguments;)LNeedMachine$Value;" } : Jvm.MethodName) ({ cls := "NeedMachine$Store", name := "makeFunction", desc := "(ILNeedMachine$Arguments;)LNeedMachine$Value;" } : Jvm.MethodName)) ∈ zm_tb := zm_memT3 75 rfl
theorem zw_556 : (Jvm.Cond.code ({ cls := "NeedMachine$Store", name := "makeFunction", desc := "(ILNeedMachine$Arguments;)LNeedMachine$Value;" } : Jvm.MethodName) prog_6_method_5_code (4 : Nat) (Option.some (Jvm.ClassFile.FieldType.object "NeedMachine$Value"))) ∈ zm_tb := zm_memT3 76 rfl
theorem zw_557 : (Jvm.Cond.methodLink "NeedMachine" (167 : Nat) ({ cls := "NeedMachine", name := "closureOf", desc := "(LNeedMachine$Expression;LNeedMachine$Arguments;)LNeedMachine$Closure;" } : Jvm.MethodName)) ∈ zm_tb := zm_memT3 77 rfl
theorem zw_559 : (Jvm.Cond.instanceMethod ({ cls := "NeedMachine", name := "closureOf", desc := "(LNeedMachine$Expression;LNeedMachine$Arguments;)LNeedMachine$Closure;" } : Jvm.MethodName)) ∈ zm_tb := zm_memT3 79 rfl
theorem zw_560 : (Jvm.Cond.code ({ cls := "NeedMachine", name := "closureOf", desc := "(LNeedMachine$Expression;LNeedMachine$Arguments;)LNeedMachine$Closure;" } : Jvm.MethodName) prog_1_method_20_code (3 : Nat) (Option.some (Jvm.ClassFile.FieldType.object "NeedMachine$Closure"))) ∈ zm_tb := zm_memT3 80 rfl
theorem zw_561 : (Jvm.Cond.methodLink "NeedMachine" (254 : Nat) ({ cls := "NeedMachine$Store", name := "makeClosure", desc := "(LNeedMachine$Expression;LNeedMachine$Arguments;)LNeedMachine$Closure;" } : Jvm.MethodName)) ∈ zm_tb := zm_memT3 81 rfl
theorem zw_562 : (Jvm.Cond.instanceMethod ({ cls := "NeedMachine$Store", name := "makeClosure", desc := "(LNeedMachine$Expression;LNeedMachine$Arguments;)LNeedMachine$Closure;" } : Jvm.MethodName)) ∈ zm_tb := zm_memT3 82 rfl
theorem zw_563 : (Jvm.Cond.selects "NeedMachine$Store" ({ cls := "NeedMachine$Store", name := "makeClosure", desc := "(LNeedMachine$Expression;LNeedMachine$Arguments;)LNeedMachine$Closure;" } : Jvm.MethodName) ({ cls := "NeedMachine$Store", name := "makeClosure", desc := "(LNeedMachine$Expression;LNeedMachine$Arguments;)LNeedMachine$Closure;" } : Jvm.MethodName)) ∈ zm_tb := zm_memT3 83 rfl
theorem zw_564 : (Jvm.Cond.code ({ cls := "NeedMachine$Store", name := "makeClosure", desc := "(LNeedMachine$Expression;LNeedMachine$Arguments;)LNeedMachine$Closure;" } : Jvm.MethodName) prog_6_method_6_code (4 : Nat) (Option.some (Jvm.ClassFile.FieldType.object "NeedMachine$Closure"))) ∈ zm_tb := zm_memT3 84 rfl
theorem zw_565 : (Jvm.Cond.classLink "NeedMachine$Store" (66 : Nat) "NeedMachine$Closure") ∈ zm_tb := zm_memT3 85 rfl
theorem zw_566 : (Jvm.Cond.instantiable "NeedMachine$Closure" (4 : Nat)) ∈ zm_tb := zm_memT3 86 rfl
theorem zw_567 : (Jvm.Cond.methodLinkNest "NeedMachine$Store" (68 : Nat) ({ cls := "NeedMachine$Closure", name := "<init>", desc := "()V" } : Jvm.MethodName) "NeedMachine") ∈ zm_tb := zm_memT3 87 rfl
theorem zw_568 : (Jvm.Cond.instanceMethod ({ cls := "NeedMachine$Closure", name := "<init>", desc := "()V" } : Jvm.MethodName)) ∈ zm_tb := zm_memT3 88 rfl
theorem zw_569 : (Jvm.Cond.code ({ cls := "NeedMachine$Closure", name := "<init>", desc := "()V" } : Jvm.MethodName) prog_3_method_1_code (1 : Nat) (Option.none : Option Jvm.ClassFile.FieldType)) ∈ zm_tb := zm_memT3 89 rfl
theorem zw_570 : (Jvm.Cond.methodLink "NeedMachine$Closure" (1 : Nat) ({ cls := "java/lang/Object", name := "<init>", desc := "()V" } : Jvm.MethodName)) ∈ zm_tb := zm_memT3 90 rfl
theorem zw_571 : (Jvm.Cond.fieldLink "NeedMachine$Store" (77 : Nat) "NeedMachine$Closure" "expression" "LNeedMachine$Expression;") ∈ zm_tb := zm_memT3 91 rfl
theorem zw_572 : (Jvm.Cond.fieldLink "NeedMachine" (245 : Nat) "NeedMachine$Closure" "expression" "LNeedMachine$Expression;") ∈ zm_tb := zm_memT3 92 rfl
theorem zw_573 : (Jvm.Cond.fieldLink "NeedMachine$Store" (81 : Nat) "NeedMachine$Closure" "given" "LNeedMachine$Arguments;") ∈ zm_tb := zm_memT3 93 rfl
theorem zw_574 : (Jvm.Cond.fieldLink "NeedMachine" (248 : Nat) "NeedMachine$Closure" "given" "LNeedMachine$Arguments;") ∈ zm_tb := zm_memT3 94 rfl
theorem zw_575 : (Jvm.Cond.fieldLink "NeedMachine$Store" (84 : Nat) "NeedMachine$Closure" "begun" "Z") ∈ zm_tb := zm_memT3 95 rfl
theorem zw_576 : (Jvm.Cond.fieldLink "NeedMachine" (235 : Nat) "NeedMachine$Closure" "begun" "Z") ∈ zm_tb := zm_memT3 96 rfl
theorem zw_577 : (Jvm.Cond.fieldLink "NeedMachine$Store" (88 : Nat) "NeedMachine$Closure" "value" "LNeedMachine$Value;") ∈ zm_tb := zm_memT3 97 rfl
theorem zw_578 : (Jvm.Cond.fieldLink "NeedMachine" (251 : Nat) "NeedMachine$Closure" "value" "LNeedMachine$Value;") ∈ zm_tb := zm_memT3 98 rfl
theorem zw_588 : (Jvm.Cond.methodLink "NeedMachine" (174 : Nat) ({ cls := "NeedMachine$Store", name := "makePair", desc := "(LNeedMachine$Closure;LNeedMachine$Closure;)LNeedMachine$Value;" } : Jvm.MethodName)) ∈ zm_tb := zm_memT3 108 rfl
theorem zw_589 : (Jvm.Cond.instanceMethod ({ cls := "NeedMachine$Store", name := "makePair", desc := "(LNeedMachine$Closure;LNeedMachine$Closure;)LNeedMachine$Value;" } : Jvm.MethodName)) ∈ zm_tb := zm_memT3 109 rfl
theorem zw_590 : (Jvm.Cond.selects "NeedMachine$Store" ({ cls := "NeedMachine$Store", name := "makePair", desc := "(LNeedMachine$Closure;LNeedMachine$Closure;)LNeedMachine$Value;" } : Jvm.MethodName) ({ cls := "NeedMachine$Store", name := "makePair", desc := "(LNeedMachine$Closure;LNeedMachine$Closure;)LNeedMachine$Value;" } : Jvm.MethodName)) ∈ zm_tb := zm_memT3 110 rfl
theorem zw_591 : (Jvm.Cond.code ({ cls := "NeedMachine$Store", name := "makePair", desc := "(LNeedMachine$Closure;LNeedMachine$Closure;)LNeedMachine$Value;" } : Jvm.MethodName) prog_6_method_4_code (4 : Nat) (Option.some (Jvm.ClassFile.FieldType.object "NeedMachine$Value"))) ∈ zm_tb := zm_memT3 111 rfl
theorem zw_592 : (Jvm.Cond.methodLink "NeedMachine" (178 : Nat) ({ cls := "NeedMachine", name := "apply", desc := "(LNeedMachine$Expression;LNeedMachine$Arguments;I)LNeedMachine$Value;" } : Jvm.MethodName)) ∈ zm_tb := zm_memT3 112 rfl
theorem zw_594 : (Jvm.Cond.instanceMethod ({ cls := "NeedMachine", name := "apply", desc := "(LNeedMachine$Expression;LNeedMachine$Arguments;I)LNeedMachine$Value;" } : Jvm.MethodName)) ∈ zm_tb := zm_memT3 114 rfl
theorem zw_595 : (Jvm.Cond.code ({ cls := "NeedMachine", name := "apply", desc := "(LNeedMachine$Expression;LNeedMachine$Arguments;I)LNeedMachine$Value;" } : Jvm.MethodName) prog_1_method_14_code (7 : Nat) (Option.some (Jvm.ClassFile.FieldType.object "NeedMachine$Value"))) ∈ zm_tb := zm_memT3 115 rfl
theorem zw_596 : (Jvm.Cond.classLink "NeedMachine" (198 : Nat) "java/lang/UnsupportedOperationException") ∈ zm_tb := zm_memT3 116 rfl
theorem zw_597 : (Jvm.Cond.instantiable "java/lang/UnsupportedOperationException" (6 : Nat)) ∈ zm_tb := zm_memT3 117 rfl
theorem zw_598 : (Jvm.Cond.castable "java/lang/UnsupportedOperationException" "java/lang/UnsupportedOperationException") ∈ zm_tb := zm_memT3 118 rfl
theorem zw_605 : (Jvm.Cond.stringRef "NeedMachine" (200 : Nat) "only a function can be applied") ∈ zm_tb := zm_memT3 125 rfl
theorem zw_606 : (Jvm.Cond.methodLink "NeedMachine" (202 : Nat) ({ cls := "java/lang/UnsupportedOperationException", name := "<init>", desc := "(Ljava/lang/String;)V" } : Jvm.MethodName)) ∈ zm_tb := zm_memT3 126 rfl
theorem zw_612 : (Jvm.Cond.methodLink "NeedMachine" (210 : Nat) ({ cls := "NeedMachine$Store", name := "makeArguments", desc := "(LNeedMachine$Arguments;LNeedMachine$Closure;)LNeedMachine$Arguments;" } : Jvm.MethodName)) ∈ zm_tb := zm_memT3 132 rfl
theorem zw_613 : (Jvm.Cond.instanceMethod ({ cls := "NeedMachine$Store", name := "makeArguments", desc := "(LNeedMachine$Arguments;LNeedMachine$Closure;)LNeedMachine$Arguments;" } : Jvm.MethodName)) ∈ zm_tb := zm_memT3 133 rfl
theorem zw_614 : (Jvm.Cond.selects "NeedMachine$Store" ({ cls := "NeedMachine$Store", name := "makeArguments", desc := "(LNeedMachine$Arguments;LNeedMachine$Closure;)LNeedMachine$Arguments;" } : Jvm.MethodName) ({ cls := "NeedMachine$Store", name := "makeArguments", desc := "(LNeedMachine$Arguments;LNeedMachine$Closure;)LNeedMachine$Arguments;" } : Jvm.MethodName)) ∈ zm_tb := zm_memT3 134 rfl
theorem zw_615 : (Jvm.Cond.code ({ cls := "NeedMachine$Store", name := "makeArguments", desc := "(LNeedMachine$Arguments;LNeedMachine$Closure;)LNeedMachine$Arguments;" } : Jvm.MethodName) prog_6_method_7_code (4 : Nat) (Option.some (Jvm.ClassFile.FieldType.object "NeedMachine$Arguments"))) ∈ zm_tb := zm_memT3 135 rfl
theorem zw_616 : (Jvm.Cond.classLink "NeedMachine$Store" (91 : Nat) "NeedMachine$Arguments") ∈ zm_tb := zm_memT3 136 rfl
theorem zw_617 : (Jvm.Cond.instantiable "NeedMachine$Arguments" (3 : Nat)) ∈ zm_tb := zm_memT3 137 rfl
theorem zw_618 : (Jvm.Cond.methodLinkNest "NeedMachine$Store" (93 : Nat) ({ cls := "NeedMachine$Arguments", name := "<init>", desc := "()V" } : Jvm.MethodName) "NeedMachine") ∈ zm_tb := zm_memT3 138 rfl
theorem zw_619 : (Jvm.Cond.instanceMethod ({ cls := "NeedMachine$Arguments", name := "<init>", desc := "()V" } : Jvm.MethodName)) ∈ zm_tb := zm_memT3 139 rfl
theorem zw_620 : (Jvm.Cond.code ({ cls := "NeedMachine$Arguments", name := "<init>", desc := "()V" } : Jvm.MethodName) prog_2_method_1_code (1 : Nat) (Option.none : Option Jvm.ClassFile.FieldType)) ∈ zm_tb := zm_memT3 140 rfl
theorem zw_621 : (Jvm.Cond.methodLink "NeedMachine$Arguments" (1 : Nat) ({ cls := "java/lang/Object", name := "<init>", desc := "()V" } : Jvm.MethodName)) ∈ zm_tb := zm_memT3 141 rfl
theorem zw_622 : (Jvm.Cond.fieldLink "NeedMachine$Store" (94 : Nat) "NeedMachine$Arguments" "before" "LNeedMachine$Arguments;") ∈ zm_tb := zm_memT3 142 rfl
theorem zw_623 : (Jvm.Cond.fieldLink "NeedMachine" (262 : Nat) "NeedMachine$Arguments" "before" "LNeedMachine$Arguments;") ∈ zm_tb := zm_memT3 143 rfl
theorem zw_624 : (Jvm.Cond.fieldLink "NeedMachine$Store" (97 : Nat) "NeedMachine$Arguments" "last" "LNeedMachine$Closure;") ∈ zm_tb := zm_memT3 144 rfl
theorem zw_625 : (Jvm.Cond.fieldLink "NeedMachine" (259 : Nat) "NeedMachine$Arguments" "last" "LNeedMachine$Closure;") ∈ zm_tb := zm_memT3 145 rfl
theorem zw_626 : (Jvm.Cond.fieldLink "NeedMachine$Store" (100 : Nat) "NeedMachine$Arguments" "size" "I") ∈ zm_tb := zm_memT3 146 rfl
theorem zw_627 : (Jvm.Cond.fieldLink "NeedMachine" (214 : Nat) "NeedMachine$Arguments" "size" "I") ∈ zm_tb := zm_memT3 147 rfl
theorem zw_635 : (Jvm.Cond.methodLink "NeedMachine" (124 : Nat) ({ cls := "NeedMachine", name := "mustBePair", desc := "(LNeedMachine$Value;)LNeedMachine$Value;" } : Jvm.MethodName)) ∈ zm_tb := zm_memT3 155 rfl
theorem zw_636 : (Jvm.Cond.static ({ cls := "NeedMachine", name := "mustBePair", desc := "(LNeedMachine$Value;)LNeedMachine$Value;" } : Jvm.MethodName)) ∈ zm_tb := zm_memT3 156 rfl
theorem zw_637 : (Jvm.Cond.code ({ cls := "NeedMachine", name := "mustBePair", desc := "(LNeedMachine$Value;)LNeedMachine$Value;" } : Jvm.MethodName) prog_1_method_25_code (1 : Nat) (Option.some (Jvm.ClassFile.FieldType.object "NeedMachine$Value"))) ∈ zm_tb := zm_memT3 157 rfl
theorem zw_638 : (Jvm.Cond.stringRef "NeedMachine" (271 : Nat) "nil has no parts") ∈ zm_tb := zm_memT3 158 rfl
theorem zw_639 : (Jvm.Cond.stringRef "NeedMachine" (273 : Nat) "only a pair will do") ∈ zm_tb := zm_memT3 159 rfl
theorem zw_640 : (Jvm.Cond.methodLink "NeedMachine" (181 : Nat) ({ cls := "NeedMachine", name := "isNil", desc := "(LNeedMachine$Value;)I" } : Jvm.MethodName)) ∈ zm_tb := zm_memT3 160 rfl
theorem zw_641 : (Jvm.Cond.static ({ cls := "NeedMachine", name := "isNil", desc := "(LNeedMachine$Value;)I" } : Jvm.MethodName)) ∈ zm_tb := zm_memT3 161 rfl
theorem zw_642 : (Jvm.Cond.code ({ cls := "NeedMachine", name := "isNil", desc := "(LNeedMachine$Value;)I" } : Jvm.MethodName) prog_1_method_26_code (1 : Nat) (Option.some Jvm.ClassFile.FieldType.int)) ∈ zm_tb := zm_memT3 162 rfl
theorem zw_643 : (Jvm.Cond.stringRef "NeedMachine" (275 : Nat) "only nil or a pair will do") ∈ zm_tb := zm_memT3 163 rfl
theorem zw_644 : (Jvm.Cond.methodLink "NeedMachine" (184 : Nat) ({ cls := "NeedMachine", name := "choose", desc := "(LNeedMachine$Expression;LNeedMachine$Arguments;I)LNeedMachine$Value;" } : Jvm.MethodName)) ∈ zm_tb := zm_memT3 164 rfl
theorem zw_646 : (Jvm.Cond.instanceMethod ({ cls := "NeedMachine", name := "choose", desc := "(LNeedMachine$Expression;LNeedMachine$Arguments;I)LNeedMachine$Value;" } : Jvm.MethodName)) ∈ zm_tb := zm_memT3 166 rfl
theorem zw_647 : (Jvm.Cond.code ({ cls := "NeedMachine", name := "choose", desc := "(LNeedMachine$Expression;LNeedMachine$Arguments;I)LNeedMachine$Value;" } : Jvm.MethodName) prog_1_method_16_code (5 : Nat) (Option.some (Jvm.ClassFile.FieldType.object "NeedMachine$Value"))) ∈ zm_tb := zm_memT3 167 rfl
theorem zw_648 : (Jvm.Cond.methodLink "NeedMachine" (77 : Nat) ({ cls := "NeedMachine", name := "mustBeNumber", desc := "(LNeedMachine$Value;)I" } : Jvm.MethodName)) ∈ zm_tb := zm_memT3 168 rfl
theorem zw_649 : (Jvm.Cond.static ({ cls := "NeedMachine", name := "mustBeNumber", desc := "(LNeedMachine$Value;)I" } : Jvm.MethodName)) ∈ zm_tb := zm_memT3 169 rfl
theorem zw_650 : (Jvm.Cond.code ({ cls := "NeedMachine", name := "mustBeNumber", desc := "(LNeedMachine$Value;)I" } : Jvm.MethodName) prog_1_method_24_code (1 : Nat) (Option.some Jvm.ClassFile.FieldType.int)) ∈ zm_tb := zm_memT3 170 rfl
theorem zw_651 : (Jvm.Cond.stringRef "NeedMachine" (269 : Nat) "only a number will do") ∈ zm_tb := zm_memT3 171 rfl
theorem zw_652 : (Jvm.Cond.methodLink "NeedMachine" (187 : Nat) ({ cls := "NeedMachine", name := "reckon", desc := "(LNeedMachine$Expression;LNeedMachine$Arguments;I)LNeedMachine$Value;" } : Jvm.MethodName)) ∈ zm_tb := zm_memT3 172 rfl
theorem zw_654 : (Jvm.Cond.instanceMethod ({ cls := "NeedMachine", name := "reckon", desc := "(LNeedMachine$Expression;LNeedMachine$Arguments;I)LNeedMachine$Value;" } : Jvm.MethodName)) ∈ zm_tb := zm_memT3 174 rfl
theorem zw_655 : (Jvm.Cond.code ({ cls := "NeedMachine", name := "reckon", desc := "(LNeedMachine$Expression;LNeedMachine$Arguments;I)LNeedMachine$Value;" } : Jvm.MethodName) prog_1_method_17_code (6 : Nat) (Option.some (Jvm.ClassFile.FieldType.object "NeedMachine$Value"))) ∈ zm_tb := zm_memT3 175 rfl
theorem zw_656 : (Jvm.Cond.methodLink "NeedMachine" (227 : Nat) ({ cls := "NeedMachine", name := "reckonNumbers", desc := "(CII)I" } : Jvm.MethodName)) ∈ zm_tb := zm_memT3 176 rfl
theorem zw_657 : (Jvm.Cond.static ({ cls := "NeedMachine", name := "reckonNumbers", desc := "(CII)I" } : Jvm.MethodName)) ∈ zm_tb := zm_memT3 177 rfl
theorem zw_658 : (Jvm.Cond.code ({ cls := "NeedMachine", name := "reckonNumbers", desc := "(CII)I" } : Jvm.MethodName) prog_1_method_18_code (3 : Nat) (Option.some Jvm.ClassFile.FieldType.int)) ∈ zm_tb := zm_memT3 178 rfl
theorem zw_659 : (Jvm.Cond.methodLink "NeedMachine" (231 : Nat) ({ cls := "NeedMachine", name := "mustNotBeZero", desc := "(I)I" } : Jvm.MethodName)) ∈ zm_tb := zm_memT3 179 rfl
theorem zw_660 : (Jvm.Cond.static ({ cls := "NeedMachine", name := "mustNotBeZero", desc := "(I)I" } : Jvm.MethodName)) ∈ zm_tb := zm_memT3 180 rfl
theorem zw_661 : (Jvm.Cond.code ({ cls := "NeedMachine", name := "mustNotBeZero", desc := "(I)I" } : Jvm.MethodName) prog_1_method_27_code (1 : Nat) (Option.some Jvm.ClassFile.FieldType.int)) ∈ zm_tb := zm_memT3 181 rfl
theorem zw_662 : (Jvm.Cond.classLink "NeedMachine" (277 : Nat) "java/lang/ArithmeticException") ∈ zm_tb := zm_memT3 182 rfl
theorem zw_663 : (Jvm.Cond.instantiable "java/lang/ArithmeticException" (6 : Nat)) ∈ zm_tb := zm_memT3 183 rfl
theorem zw_664 : (Jvm.Cond.castable "java/lang/ArithmeticException" "java/lang/ArithmeticException") ∈ zm_tb := zm_memT3 184 rfl
theorem zw_671 : (Jvm.Cond.stringRef "NeedMachine" (279 : Nat) "divided by zero") ∈ zm_tb := zm_memT3 191 rfl
theorem zw_672 : (Jvm.Cond.methodLink "NeedMachine" (281 : Nat) ({ cls := "java/lang/ArithmeticException", name := "<init>", desc := "(Ljava/lang/String;)V" } : Jvm.MethodName)) ∈ zm_tb := zm_memT3 192 rfl
theorem zw_678 : (Jvm.Cond.methodLink "NeedMachineLaw" (65 : Nat) ({ cls := "NeedMachineLaw", name := "number", desc := "(LNeedMachine;[J)I" } : Jvm.MethodName)) ∈ zm_tb := zm_memT3 198 rfl
theorem zw_679 : (Jvm.Cond.static ({ cls := "NeedMachineLaw", name := "number", desc := "(LNeedMachine;[J)I" } : Jvm.MethodName)) ∈ zm_tb := zm_memT3 199 rfl
theorem zw_680 : (Jvm.Cond.codeWith ({ cls := "NeedMachineLaw", name := "number", desc := "(LNeedMachine;[J)I" } : Jvm.MethodName) method_6_code (3 : Nat) (Option.some Jvm.ClassFile.FieldType.int) [((0 : Nat), (8 : Nat), (11 : Nat), (24 : Nat)), ((0 : Nat), (8 : Nat), (14 : Nat), (28 : Nat))]) ∈ zm_tb := zm_memT3 200 rfl
theorem zw_681 : (Jvm.Cond.methodLink "NeedMachineLaw" (30 : Nat) ({ cls := "NeedMachine", name := "number", desc := "()I" } : Jvm.MethodName)) ∈ zm_tb := zm_memT3 201 rfl
theorem zw_682 : (Jvm.Cond.instanceMethod ({ cls := "NeedMachine", name := "number", desc := "()I" } : Jvm.MethodName)) ∈ zm_tb := zm_memT3 202 rfl
theorem zw_683 : (Jvm.Cond.selects "NeedMachine" ({ cls := "NeedMachine", name := "number", desc := "()I" } : Jvm.MethodName) ({ cls := "NeedMachine", name := "number", desc := "()I" } : Jvm.MethodName)) ∈ zm_tb := zm_memT3 203 rfl
theorem zw_684 : (Jvm.Cond.code ({ cls := "NeedMachine", name := "number", desc := "()I" } : Jvm.MethodName) prog_1_method_5_code (1 : Nat) (Option.some Jvm.ClassFile.FieldType.int)) ∈ zm_tb := zm_memT3 204 rfl
theorem zw_685 : (Jvm.Cond.stringRef "NeedMachine" (72 : Nat) "there is no result") ∈ zm_tb := zm_memT3 205 rfl
theorem zw_686 : (Jvm.Cond.methodLink "NeedMachineLaw" (68 : Nat) ({ cls := "NeedMachineLaw", name := "head", desc := "(LNeedMachine;[J)I" } : Jvm.MethodName)) ∈ zm_tb := zm_memT3 206 rfl
theorem zw_687 : (Jvm.Cond.static ({ cls := "NeedMachineLaw", name := "head", desc := "(LNeedMachine;[J)I" } : Jvm.MethodName)) ∈ zm_tb := zm_memT3 207 rfl
theorem zw_688 : (Jvm.Cond.codeWith ({ cls := "NeedMachineLaw", name := "head", desc := "(LNeedMachine;[J)I" } : Jvm.MethodName) method_7_code (3 : Nat) (Option.some Jvm.ClassFile.FieldType.int) [((0 : Nat), (8 : Nat), (11 : Nat), (24 : Nat)), ((0 : Nat), (8 : Nat), (14 : Nat), (26 : Nat)), ((0 : Nat), (8 : Nat), (17 : Nat), (15 : Nat)), ((0 : Nat), (8 : Nat), (20 : Nat), (28 : Nat))]) ∈ zm_tb := zm_memT3 208 rfl
theorem zw_689 : (Jvm.Cond.methodLink "NeedMachineLaw" (33 : Nat) ({ cls := "NeedMachine", name := "head", desc := "()I" } : Jvm.MethodName)) ∈ zm_tb := zm_memT3 209 rfl
theorem zw_690 : (Jvm.Cond.instanceMethod ({ cls := "NeedMachine", name := "head", desc := "()I" } : Jvm.MethodName)) ∈ zm_tb := zm_memT3 210 rfl
theorem zw_691 : (Jvm.Cond.selects "NeedMachine" ({ cls := "NeedMachine", name := "head", desc := "()I" } : Jvm.MethodName) ({ cls := "NeedMachine", name := "head", desc := "()I" } : Jvm.MethodName)) ∈ zm_tb := zm_memT3 211 rfl
theorem zw_692 : (Jvm.Cond.code ({ cls := "NeedMachine", name := "head", desc := "()I" } : Jvm.MethodName) prog_1_method_6_code (3 : Nat) (Option.some Jvm.ClassFile.FieldType.int)) ∈ zm_tb := zm_memT3 212 rfl
theorem zw_693 : (Jvm.Cond.methodLink "NeedMachine" (81 : Nat) ({ cls := "NeedMachine", name := "takeResultPair", desc := "()LNeedMachine$Value;" } : Jvm.MethodName)) ∈ zm_tb := zm_memT3 213 rfl
theorem zw_695 : (Jvm.Cond.instanceMethod ({ cls := "NeedMachine", name := "takeResultPair", desc := "()LNeedMachine$Value;" } : Jvm.MethodName)) ∈ zm_tb := zm_memT3 215 rfl
theorem zw_696 : (Jvm.Cond.code ({ cls := "NeedMachine", name := "takeResultPair", desc := "()LNeedMachine$Value;" } : Jvm.MethodName) prog_1_method_11_code (2 : Nat) (Option.some (Jvm.ClassFile.FieldType.object "NeedMachine$Value"))) ∈ zm_tb := zm_memT3 216 rfl
theorem zw_697 : (Jvm.Cond.methodLink "NeedMachineLaw" (71 : Nat) ({ cls := "NeedMachineLaw", name := "tail", desc := "(LNeedMachine;[J)I" } : Jvm.MethodName)) ∈ zm_tb := zm_memT3 217 rfl
theorem zw_698 : (Jvm.Cond.static ({ cls := "NeedMachineLaw", name := "tail", desc := "(LNeedMachine;[J)I" } : Jvm.MethodName)) ∈ zm_tb := zm_memT3 218 rfl
theorem zw_699 : (Jvm.Cond.codeWith ({ cls := "NeedMachineLaw", name := "tail", desc := "(LNeedMachine;[J)I" } : Jvm.MethodName) method_8_code (3 : Nat) (Option.some Jvm.ClassFile.FieldType.int) [((0 : Nat), (8 : Nat), (11 : Nat), (24 : Nat)), ((0 : Nat), (8 : Nat), (14 : Nat), (26 : Nat)), ((0 : Nat), (8 : Nat), (17 : Nat), (15 : Nat)), ((0 : Nat), (8 : Nat), (20 : Nat), (28 : Nat))]) ∈ zm_tb := zm_memT3 219 rfl
theorem zw_700 : (Jvm.Cond.methodLink "NeedMachineLaw" (36 : Nat) ({ cls := "NeedMachine", name := "tail", desc := "()I" } : Jvm.MethodName)) ∈ zm_tb := zm_memT3 220 rfl
theorem zw_701 : (Jvm.Cond.instanceMethod ({ cls := "NeedMachine", name := "tail", desc := "()I" } : Jvm.MethodName)) ∈ zm_tb := zm_memT3 221 rfl
theorem zw_702 : (Jvm.Cond.selects "NeedMachine" ({ cls := "NeedMachine", name := "tail", desc := "()I" } : Jvm.MethodName) ({ cls := "NeedMachine", name := "tail", desc := "()I" } : Jvm.MethodName)) ∈ zm_tb := zm_memT3 222 rfl
theorem zw_703 : (Jvm.Cond.code ({ cls := "NeedMachine", name := "tail", desc := "()I" } : Jvm.MethodName) prog_1_method_7_code (2 : Nat) (Option.some Jvm.ClassFile.FieldType.int)) ∈ zm_tb := zm_memT3 223 rfl
theorem zw_704 : (Jvm.Cond.methodLink "NeedMachineLaw" (74 : Nat) ({ cls := "NeedMachineLaw", name := "remove", desc := "(LNeedMachine;I)I" } : Jvm.MethodName)) ∈ zm_tb := zm_memT3 224 rfl
theorem zw_705 : (Jvm.Cond.static ({ cls := "NeedMachineLaw", name := "remove", desc := "(LNeedMachine;I)I" } : Jvm.MethodName)) ∈ zm_tb := zm_memT3 225 rfl
theorem zw_706 : (Jvm.Cond.codeWith ({ cls := "NeedMachineLaw", name := "remove", desc := "(LNeedMachine;I)I" } : Jvm.MethodName) method_9_code (3 : Nat) (Option.some Jvm.ClassFile.FieldType.int) [((0 : Nat), (5 : Nat), (8 : Nat), (13 : Nat)), ((0 : Nat), (5 : Nat), (11 : Nat), (24 : Nat))]) ∈ zm_tb := zm_memT3 226 rfl
theorem zw_707 : (Jvm.Cond.methodLink "NeedMachineLaw" (39 : Nat) ({ cls := "NeedMachine", name := "remove", desc := "(I)V" } : Jvm.MethodName)) ∈ zm_tb := zm_memT3 227 rfl
theorem zw_708 : (Jvm.Cond.instanceMethod ({ cls := "NeedMachine", name := "remove", desc := "(I)V" } : Jvm.MethodName)) ∈ zm_tb := zm_memT3 228 rfl
theorem zw_709 : (Jvm.Cond.selects "NeedMachine" ({ cls := "NeedMachine", name := "remove", desc := "(I)V" } : Jvm.MethodName) ({ cls := "NeedMachine", name := "remove", desc := "(I)V" } : Jvm.MethodName)) ∈ zm_tb := zm_memT3 229 rfl
theorem zw_710 : (Jvm.Cond.code ({ cls := "NeedMachine", name := "remove", desc := "(I)V" } : Jvm.MethodName) prog_1_method_8_code (2 : Nat) (Option.none : Option Jvm.ClassFile.FieldType)) ∈ zm_tb := zm_memT3 230 rfl
theorem zw_711 : (Jvm.Cond.classLink "NeedMachine" (96 : Nat) "java/lang/IllegalArgumentException") ∈ zm_tb := zm_memT3 231 rfl
theorem zw_712 : (Jvm.Cond.stringRef "NeedMachine" (98 : Nat) "no such name") ∈ zm_tb := zm_memT3 232 rfl
theorem zw_713 : (Jvm.Cond.methodLink "NeedMachine" (100 : Nat) ({ cls := "java/lang/IllegalArgumentException", name := "<init>", desc := "(Ljava/lang/String;)V" } : Jvm.MethodName)) ∈ zm_tb := zm_memT3 233 rfl
theorem zw_714 : (Jvm.Cond.classLink "NeedMachineLaw" (44 : Nat) "NeedMachineModel") ∈ zm_tb := zm_memT3 234 rfl
theorem zw_715 : (Jvm.Cond.instantiable "NeedMachineModel" (44 : Nat)) ∈ zm_tb := zm_memT3 235 rfl
theorem zw_716 : (Jvm.Cond.methodLink "NeedMachineLaw" (46 : Nat) ({ cls := "NeedMachineModel", name := "<init>", desc := "()V" } : Jvm.MethodName)) ∈ zm_tb := zm_memT3 236 rfl
theorem zw_717 : (Jvm.Cond.instanceMethod ({ cls := "NeedMachineModel", name := "<init>", desc := "()V" } : Jvm.MethodName)) ∈ zm_tb := zm_memT3 237 rfl
theorem zw_718 : (Jvm.Cond.code ({ cls := "NeedMachineModel", name := "<init>", desc := "()V" } : Jvm.MethodName) prog_10_method_1_code (1 : Nat) (Option.none : Option Jvm.ClassFile.FieldType)) ∈ zm_tb := zm_memT3 238 rfl
theorem zw_719 : (Jvm.Cond.methodLink "NeedMachineModel" (1 : Nat) ({ cls := "java/lang/Object", name := "<init>", desc := "()V" } : Jvm.MethodName)) ∈ zm_tb := zm_memT3 239 rfl
theorem zw_720 : (Jvm.Cond.fieldLink "NeedMachineModel" (7 : Nat) "NeedMachineModel" "text" "[I") ∈ zm_tb := zm_memT4 0 rfl
theorem zw_721 : (Jvm.Cond.fieldLink "NeedMachineModel" (13 : Nat) "NeedMachineModel" "pool" "[I") ∈ zm_tb := zm_memT4 1 rfl
theorem zw_722 : (Jvm.Cond.fieldLink "NeedMachineModel" (16 : Nat) "NeedMachineModel" "spare" "[I") ∈ zm_tb := zm_memT4 2 rfl
theorem zw_723 : (Jvm.Cond.fieldLink "NeedMachineModel" (19 : Nat) "NeedMachineModel" "body" "[I") ∈ zm_tb := zm_memT4 3 rfl
theorem zw_724 : (Jvm.Cond.fieldLink "NeedMachineModel" (22 : Nat) "NeedMachineModel" "letters" "[I") ∈ zm_tb := zm_memT4 4 rfl
theorem zw_725 : (Jvm.Cond.fieldLink "NeedMachineModel" (25 : Nat) "NeedMachineModel" "parameters" "[I") ∈ zm_tb := zm_memT4 5 rfl
theorem zw_726 : (Jvm.Cond.fieldLink "NeedMachineModel" (28 : Nat) "NeedMachineModel" "need" "[I") ∈ zm_tb := zm_memT4 6 rfl
theorem zw_727 : (Jvm.Cond.fieldLink "NeedMachineModel" (31 : Nat) "NeedMachineModel" "defined" "[Z") ∈ zm_tb := zm_memT4 7 rfl
theorem zw_728 : (Jvm.Cond.fieldLink "NeedMachineModel" (95 : Nat) "NeedMachineModel" "size" "I") ∈ zm_tb := zm_memT4 8 rfl
theorem zw_729 : (Jvm.Cond.fieldLink "NeedMachineModel" (35 : Nat) "NeedMachineModel" "place" "I") ∈ zm_tb := zm_memT4 9 rfl
theorem zw_730 : (Jvm.Cond.fieldLink "NeedMachineModel" (102 : Nat) "NeedMachineModel" "pos" "I") ∈ zm_tb := zm_memT4 10 rfl
theorem zw_731 : (Jvm.Cond.fieldLink "NeedMachineModel" (112 : Nat) "NeedMachineModel" "pooled" "I") ∈ zm_tb := zm_memT4 11 rfl
theorem zw_732 : (Jvm.Cond.fieldLink "NeedMachineModel" (84 : Nat) "NeedMachineModel" "thrown" "I") ∈ zm_tb := zm_memT4 12 rfl
theorem zw_733 : (Jvm.Cond.fieldLink "NeedMachineModel" (39 : Nat) "NeedMachineModel" "expression" "[I") ∈ zm_tb := zm_memT4 13 rfl
theorem zw_734 : (Jvm.Cond.fieldLink "NeedMachineModel" (42 : Nat) "NeedMachineModel" "around" "[I") ∈ zm_tb := zm_memT4 14 rfl
theorem zw_735 : (Jvm.Cond.fieldLink "NeedMachineModel" (45 : Nat) "NeedMachineModel" "state" "[I") ∈ zm_tb := zm_memT4 15 rfl
theorem zw_736 : (Jvm.Cond.fieldLink "NeedMachineModel" (48 : Nat) "NeedMachineModel" "kind" "[I") ∈ zm_tb := zm_memT4 16 rfl
theorem zw_737 : (Jvm.Cond.fieldLink "NeedMachineModel" (51 : Nat) "NeedMachineModel" "first" "[I") ∈ zm_tb := zm_memT4 17 rfl
theorem zw_738 : (Jvm.Cond.fieldLink "NeedMachineModel" (54 : Nat) "NeedMachineModel" "second" "[I") ∈ zm_tb := zm_memT4 18 rfl
theorem zw_739 : (Jvm.Cond.fieldLink "NeedMachineModel" (57 : Nat) "NeedMachineModel" "name" "[I") ∈ zm_tb := zm_memT4 19 rfl
theorem zw_740 : (Jvm.Cond.fieldLink "NeedMachineModel" (60 : Nat) "NeedMachineModel" "holds" "[I") ∈ zm_tb := zm_memT4 20 rfl
theorem zw_741 : (Jvm.Cond.fieldLink "NeedMachineModel" (63 : Nat) "NeedMachineModel" "argument" "[I") ∈ zm_tb := zm_memT4 21 rfl
theorem zw_742 : (Jvm.Cond.fieldLink "NeedMachineModel" (66 : Nat) "NeedMachineModel" "before" "[I") ∈ zm_tb := zm_memT4 22 rfl
theorem zw_743 : (Jvm.Cond.fieldLink "NeedMachineModel" (135 : Nat) "NeedMachineModel" "closures" "I") ∈ zm_tb := zm_memT4 23 rfl
theorem zw_744 : (Jvm.Cond.fieldLink "NeedMachineModel" (132 : Nat) "NeedMachineModel" "surroundings" "I") ∈ zm_tb := zm_memT4 24 rfl
theorem zw_745 : (Jvm.Cond.fieldLink "NeedMachineModel" (129 : Nat) "NeedMachineModel" "arguments" "I") ∈ zm_tb := zm_memT4 25 rfl
theorem zw_746 : (Jvm.Cond.fieldLink "NeedMachineModel" (69 : Nat) "NeedMachineModel" "at" "[I") ∈ zm_tb := zm_memT4 26 rfl
theorem zw_747 : (Jvm.Cond.fieldLink "NeedMachineModel" (72 : Nat) "NeedMachineModel" "in" "[I") ∈ zm_tb := zm_memT4 27 rfl
theorem zw_748 : (Jvm.Cond.fieldLink "NeedMachineModel" (75 : Nat) "NeedMachineModel" "stage" "[I") ∈ zm_tb := zm_memT4 28 rfl
theorem zw_749 : (Jvm.Cond.fieldLink "NeedMachineModel" (78 : Nat) "NeedMachineModel" "kept" "[I") ∈ zm_tb := zm_memT4 29 rfl
theorem zw_750 : (Jvm.Cond.fieldLink "NeedMachineModel" (81 : Nat) "NeedMachineModel" "forcing" "[I") ∈ zm_tb := zm_memT4 30 rfl
theorem zw_751 : (Jvm.Cond.fieldLink "NeedMachineModel" (138 : Nat) "NeedMachineModel" "depth" "I") ∈ zm_tb := zm_memT4 31 rfl
theorem zw_752 : (Jvm.Cond.fieldLink "NeedMachineModel" (141 : Nat) "NeedMachineModel" "deepest" "I") ∈ zm_tb := zm_memT4 32 rfl
theorem zw_753 : (Jvm.Cond.fieldLink "NeedMachineModel" (175 : Nat) "NeedMachineModel" "callsNow" "I") ∈ zm_tb := zm_memT4 33 rfl
theorem zw_754 : (Jvm.Cond.fieldLink "NeedMachineModel" (178 : Nat) "NeedMachineModel" "calls" "I") ∈ zm_tb := zm_memT4 34 rfl
theorem zw_755 : (Jvm.Cond.fieldLink "NeedMachineModel" (168 : Nat) "NeedMachineModel" "forced" "I") ∈ zm_tb := zm_memT4 35 rfl
theorem zw_756 : (Jvm.Cond.fieldLink "NeedMachineModel" (161 : Nat) "NeedMachineModel" "again" "I") ∈ zm_tb := zm_memT4 36 rfl
theorem zw_757 : (Jvm.Cond.fieldLink "NeedMachineModel" (144 : Nat) "NeedMachineModel" "outKind" "I") ∈ zm_tb := zm_memT4 37 rfl
theorem zw_758 : (Jvm.Cond.fieldLink "NeedMachineModel" (147 : Nat) "NeedMachineModel" "outFirst" "I") ∈ zm_tb := zm_memT4 38 rfl
theorem zw_759 : (Jvm.Cond.fieldLink "NeedMachineModel" (150 : Nat) "NeedMachineModel" "outSecond" "I") ∈ zm_tb := zm_memT4 39 rfl
theorem zw_760 : (Jvm.Cond.fieldLink "NeedMachineModel" (220 : Nat) "NeedMachineModel" "resultKind" "I") ∈ zm_tb := zm_memT4 40 rfl
theorem zw_761 : (Jvm.Cond.fieldLink "NeedMachineModel" (223 : Nat) "NeedMachineModel" "resultFirst" "I") ∈ zm_tb := zm_memT4 41 rfl
theorem zw_762 : (Jvm.Cond.fieldLink "NeedMachineModel" (226 : Nat) "NeedMachineModel" "resultSecond" "I") ∈ zm_tb := zm_memT4 42 rfl
theorem zw_763 : (Jvm.Cond.fieldLink "NeedMachineModel" (216 : Nat) "NeedMachineModel" "has" "Z") ∈ zm_tb := zm_memT4 43 rfl
theorem zw_853 : (Jvm.Cond.arrayClass Jvm.ClassFile.FieldType.int) ∈ zm_tb := zm_memT4 133 rfl
theorem zw_854 : (Jvm.Cond.arrayClass Jvm.ClassFile.FieldType.boolean) ∈ zm_tb := zm_memT4 134 rfl
theorem zw_855 : (Jvm.Cond.methodLink "NeedMachineLaw" (55 : Nat) ({ cls := "NeedMachineModel", name := "thrown", desc := "()I" } : Jvm.MethodName)) ∈ zm_tb := zm_memT4 135 rfl
theorem zw_856 : (Jvm.Cond.instanceMethod ({ cls := "NeedMachineModel", name := "thrown", desc := "()I" } : Jvm.MethodName)) ∈ zm_tb := zm_memT4 136 rfl
theorem zw_857 : (Jvm.Cond.selects "NeedMachineModel" ({ cls := "NeedMachineModel", name := "thrown", desc := "()I" } : Jvm.MethodName) ({ cls := "NeedMachineModel", name := "thrown", desc := "()I" } : Jvm.MethodName)) ∈ zm_tb := zm_memT4 137 rfl
theorem zw_858 : (Jvm.Cond.code ({ cls := "NeedMachineModel", name := "thrown", desc := "()I" } : Jvm.MethodName) prog_10_method_2_code (1 : Nat) (Option.some Jvm.ClassFile.FieldType.int)) ∈ zm_tb := zm_memT4 138 rfl
theorem zw_859 : (Jvm.Cond.methodLink "NeedMachineLaw" (54 : Nat) ({ cls := "NeedMachineModel", name := "type", desc := "(J)I" } : Jvm.MethodName)) ∈ zm_tb := zm_memT4 139 rfl
theorem zw_860 : (Jvm.Cond.instanceMethod ({ cls := "NeedMachineModel", name := "type", desc := "(J)I" } : Jvm.MethodName)) ∈ zm_tb := zm_memT4 140 rfl
theorem zw_861 : (Jvm.Cond.selects "NeedMachineModel" ({ cls := "NeedMachineModel", name := "type", desc := "(J)I" } : Jvm.MethodName) ({ cls := "NeedMachineModel", name := "type", desc := "(J)I" } : Jvm.MethodName)) ∈ zm_tb := zm_memT4 141 rfl
theorem zw_862 : (Jvm.Cond.code ({ cls := "NeedMachineModel", name := "type", desc := "(J)I" } : Jvm.MethodName) prog_10_method_6_code (7 : Nat) (Option.some Jvm.ClassFile.FieldType.int)) ∈ zm_tb := zm_memT4 142 rfl
theorem zw_863 : (Jvm.Cond.methodLink "NeedMachineModel" (87 : Nat) ({ cls := "NeedMachineModel", name := "between", desc := "(III)Z" } : Jvm.MethodName)) ∈ zm_tb := zm_memT4 143 rfl
theorem zw_864 : (Jvm.Cond.static ({ cls := "NeedMachineModel", name := "between", desc := "(III)Z" } : Jvm.MethodName)) ∈ zm_tb := zm_memT4 144 rfl
theorem zw_865 : (Jvm.Cond.code ({ cls := "NeedMachineModel", name := "between", desc := "(III)Z" } : Jvm.MethodName) prog_10_method_3_code (3 : Nat) (Option.some Jvm.ClassFile.FieldType.boolean)) ∈ zm_tb := zm_memT4 145 rfl
theorem zw_866 : (Jvm.Cond.methodLink "NeedMachineModel" (91 : Nat) ({ cls := "NeedMachineModel", name := "bad", desc := "(Z)Z" } : Jvm.MethodName)) ∈ zm_tb := zm_memT4 146 rfl
theorem zw_868 : (Jvm.Cond.instanceMethod ({ cls := "NeedMachineModel", name := "bad", desc := "(Z)Z" } : Jvm.MethodName)) ∈ zm_tb := zm_memT4 148 rfl
theorem zw_869 : (Jvm.Cond.code ({ cls := "NeedMachineModel", name := "bad", desc := "(Z)Z" } : Jvm.MethodName) prog_10_method_4_code (2 : Nat) (Option.some Jvm.ClassFile.FieldType.boolean)) ∈ zm_tb := zm_memT4 149 rfl
theorem zw_870 : (Jvm.Cond.methodLink "NeedMachineModel" (98 : Nat) ({ cls := "NeedMachineModel", name := "fail", desc := "(I)I" } : Jvm.MethodName)) ∈ zm_tb := zm_memT4 150 rfl
theorem zw_872 : (Jvm.Cond.instanceMethod ({ cls := "NeedMachineModel", name := "fail", desc := "(I)I" } : Jvm.MethodName)) ∈ zm_tb := zm_memT4 152 rfl
theorem zw_873 : (Jvm.Cond.code ({ cls := "NeedMachineModel", name := "fail", desc := "(I)I" } : Jvm.MethodName) prog_10_method_5_code (2 : Nat) (Option.some Jvm.ClassFile.FieldType.int)) ∈ zm_tb := zm_memT4 153 rfl
theorem zw_874 : (Jvm.Cond.methodLink "NeedMachineLaw" (61 : Nat) ({ cls := "NeedMachineModel", name := "define", desc := "()I" } : Jvm.MethodName)) ∈ zm_tb := zm_memT4 154 rfl
theorem zw_875 : (Jvm.Cond.instanceMethod ({ cls := "NeedMachineModel", name := "define", desc := "()I" } : Jvm.MethodName)) ∈ zm_tb := zm_memT4 155 rfl
theorem zw_876 : (Jvm.Cond.selects "NeedMachineModel" ({ cls := "NeedMachineModel", name := "define", desc := "()I" } : Jvm.MethodName) ({ cls := "NeedMachineModel", name := "define", desc := "()I" } : Jvm.MethodName)) ∈ zm_tb := zm_memT4 156 rfl
theorem zw_877 : (Jvm.Cond.code ({ cls := "NeedMachineModel", name := "define", desc := "()I" } : Jvm.MethodName) prog_10_method_12_code (8 : Nat) (Option.some Jvm.ClassFile.FieldType.int)) ∈ zm_tb := zm_memT4 157 rfl
theorem zw_878 : (Jvm.Cond.methodLink "NeedMachineModel" (115 : Nat) ({ cls := "NeedMachineModel", name := "heading", desc := "([I)I" } : Jvm.MethodName)) ∈ zm_tb := zm_memT4 158 rfl
theorem zw_880 : (Jvm.Cond.instanceMethod ({ cls := "NeedMachineModel", name := "heading", desc := "([I)I" } : Jvm.MethodName)) ∈ zm_tb := zm_memT4 160 rfl
theorem zw_881 : (Jvm.Cond.code ({ cls := "NeedMachineModel", name := "heading", desc := "([I)I" } : Jvm.MethodName) prog_10_method_10_code (4 : Nat) (Option.some Jvm.ClassFile.FieldType.int)) ∈ zm_tb := zm_memT4 161 rfl
theorem zw_882 : (Jvm.Cond.methodLink "NeedMachineModel" (105 : Nat) ({ cls := "NeedMachineModel", name := "look", desc := "()I" } : Jvm.MethodName)) ∈ zm_tb := zm_memT4 162 rfl
theorem zw_884 : (Jvm.Cond.instanceMethod ({ cls := "NeedMachineModel", name := "look", desc := "()I" } : Jvm.MethodName)) ∈ zm_tb := zm_memT4 164 rfl
theorem zw_885 : (Jvm.Cond.code ({ cls := "NeedMachineModel", name := "look", desc := "()I" } : Jvm.MethodName) prog_10_method_7_code (1 : Nat) (Option.some Jvm.ClassFile.FieldType.int)) ∈ zm_tb := zm_memT4 165 rfl
theorem zw_886 : (Jvm.Cond.methodLink "NeedMachineModel" (119 : Nat) ({ cls := "NeedMachineModel", name := "read", desc := "(I)Z" } : Jvm.MethodName)) ∈ zm_tb := zm_memT4 166 rfl
theorem zw_888 : (Jvm.Cond.instanceMethod ({ cls := "NeedMachineModel", name := "read", desc := "(I)Z" } : Jvm.MethodName)) ∈ zm_tb := zm_memT4 168 rfl
theorem zw_889 : (Jvm.Cond.code ({ cls := "NeedMachineModel", name := "read", desc := "(I)Z" } : Jvm.MethodName) prog_10_method_9_code (5 : Nat) (Option.some Jvm.ClassFile.FieldType.boolean)) ∈ zm_tb := zm_memT4 169 rfl
theorem zw_890 : (Jvm.Cond.methodLink "NeedMachineModel" (109 : Nat) ({ cls := "NeedMachineModel", name := "parts", desc := "(I)I" } : Jvm.MethodName)) ∈ zm_tb := zm_memT4 170 rfl
theorem zw_891 : (Jvm.Cond.static ({ cls := "NeedMachineModel", name := "parts", desc := "(I)I" } : Jvm.MethodName)) ∈ zm_tb := zm_memT4 171 rfl
theorem zw_892 : (Jvm.Cond.code ({ cls := "NeedMachineModel", name := "parts", desc := "(I)I" } : Jvm.MethodName) prog_10_method_8_code (1 : Nat) (Option.some Jvm.ClassFile.FieldType.int)) ∈ zm_tb := zm_memT4 172 rfl
theorem zw_893 : (Jvm.Cond.methodLink "NeedMachineModel" (123 : Nat) ({ cls := "NeedMachineModel", name := "store", desc := "(I)I" } : Jvm.MethodName)) ∈ zm_tb := zm_memT4 173 rfl
theorem zw_895 : (Jvm.Cond.instanceMethod ({ cls := "NeedMachineModel", name := "store", desc := "(I)I" } : Jvm.MethodName)) ∈ zm_tb := zm_memT4 175 rfl
theorem zw_896 : (Jvm.Cond.code ({ cls := "NeedMachineModel", name := "store", desc := "(I)I" } : Jvm.MethodName) prog_10_method_11_code (4 : Nat) (Option.some Jvm.ClassFile.FieldType.int)) ∈ zm_tb := zm_memT4 176 rfl
theorem zw_897 : (Jvm.Cond.methodLink "NeedMachineLaw" (64 : Nat) ({ cls := "NeedMachineModel", name := "ask", desc := "()I" } : Jvm.MethodName)) ∈ zm_tb := zm_memT4 177 rfl
theorem zw_898 : (Jvm.Cond.instanceMethod ({ cls := "NeedMachineModel", name := "ask", desc := "()I" } : Jvm.MethodName)) ∈ zm_tb := zm_memT4 178 rfl
theorem zw_899 : (Jvm.Cond.selects "NeedMachineModel" ({ cls := "NeedMachineModel", name := "ask", desc := "()I" } : Jvm.MethodName) ({ cls := "NeedMachineModel", name := "ask", desc := "()I" } : Jvm.MethodName)) ∈ zm_tb := zm_memT4 179 rfl
theorem zw_900 : (Jvm.Cond.code ({ cls := "NeedMachineModel", name := "ask", desc := "()I" } : Jvm.MethodName) prog_10_method_32_code (3 : Nat) (Option.some Jvm.ClassFile.FieldType.int)) ∈ zm_tb := zm_memT4 180 rfl
theorem zw_901 : (Jvm.Cond.methodLink "NeedMachineModel" (229 : Nat) ({ cls := "NeedMachineModel", name := "sweep", desc := "()V" } : Jvm.MethodName)) ∈ zm_tb := zm_memT4 181 rfl
theorem zw_903 : (Jvm.Cond.instanceMethod ({ cls := "NeedMachineModel", name := "sweep", desc := "()V" } : Jvm.MethodName)) ∈ zm_tb := zm_memT4 183 rfl
theorem zw_904 : (Jvm.Cond.code ({ cls := "NeedMachineModel", name := "sweep", desc := "()V" } : Jvm.MethodName) prog_10_method_13_code (6 : Nat) (Option.none : Option Jvm.ClassFile.FieldType)) ∈ zm_tb := zm_memT4 184 rfl
theorem zw_905 : (Jvm.Cond.methodLink "NeedMachineModel" (126 : Nat) ({ cls := "NeedMachineModel", name := "skip", desc := "(I)I" } : Jvm.MethodName)) ∈ zm_tb := zm_memT4 185 rfl
theorem zw_907 : (Jvm.Cond.instanceMethod ({ cls := "NeedMachineModel", name := "skip", desc := "(I)I" } : Jvm.MethodName)) ∈ zm_tb := zm_memT4 187 rfl
theorem zw_908 : (Jvm.Cond.code ({ cls := "NeedMachineModel", name := "skip", desc := "(I)I" } : Jvm.MethodName) prog_10_method_14_code (4 : Nat) (Option.some Jvm.ClassFile.FieldType.int)) ∈ zm_tb := zm_memT4 188 rfl
theorem zw_909 : (Jvm.Cond.methodLink "NeedMachineModel" (232 : Nat) ({ cls := "NeedMachineModel", name := "workOut", desc := "(II)V" } : Jvm.MethodName)) ∈ zm_tb := zm_memT4 189 rfl
theorem zw_911 : (Jvm.Cond.instanceMethod ({ cls := "NeedMachineModel", name := "workOut", desc := "(II)V" } : Jvm.MethodName)) ∈ zm_tb := zm_memT4 191 rfl
theorem zw_912 : (Jvm.Cond.code ({ cls := "NeedMachineModel", name := "workOut", desc := "(II)V" } : Jvm.MethodName) prog_10_method_30_code (3 : Nat) (Option.none : Option Jvm.ClassFile.FieldType)) ∈ zm_tb := zm_memT4 192 rfl
theorem zw_913 : (Jvm.Cond.methodLink "NeedMachineModel" (171 : Nat) ({ cls := "NeedMachineModel", name := "push", desc := "(II)V" } : Jvm.MethodName)) ∈ zm_tb := zm_memT4 193 rfl
theorem zw_915 : (Jvm.Cond.instanceMethod ({ cls := "NeedMachineModel", name := "push", desc := "(II)V" } : Jvm.MethodName)) ∈ zm_tb := zm_memT4 195 rfl
theorem zw_916 : (Jvm.Cond.code ({ cls := "NeedMachineModel", name := "push", desc := "(II)V" } : Jvm.MethodName) prog_10_method_15_code (3 : Nat) (Option.none : Option Jvm.ClassFile.FieldType)) ∈ zm_tb := zm_memT4 196 rfl
theorem zw_917 : (Jvm.Cond.methodLink "NeedMachineModel" (213 : Nat) ({ cls := "NeedMachineModel", name := "step", desc := "()V" } : Jvm.MethodName)) ∈ zm_tb := zm_memT4 197 rfl
theorem zw_919 : (Jvm.Cond.instanceMethod ({ cls := "NeedMachineModel", name := "step", desc := "()V" } : Jvm.MethodName)) ∈ zm_tb := zm_memT4 199 rfl
theorem zw_920 : (Jvm.Cond.code ({ cls := "NeedMachineModel", name := "step", desc := "()V" } : Jvm.MethodName) prog_10_method_29_code (5 : Nat) (Option.none : Option Jvm.ClassFile.FieldType)) ∈ zm_tb := zm_memT4 200 rfl
theorem zw_921 : (Jvm.Cond.methodLink "NeedMachineModel" (204 : Nat) ({ cls := "NeedMachineModel", name := "keepValue", desc := "()V" } : Jvm.MethodName)) ∈ zm_tb := zm_memT4 201 rfl
theorem zw_923 : (Jvm.Cond.instanceMethod ({ cls := "NeedMachineModel", name := "keepValue", desc := "()V" } : Jvm.MethodName)) ∈ zm_tb := zm_memT4 203 rfl
theorem zw_924 : (Jvm.Cond.code ({ cls := "NeedMachineModel", name := "keepValue", desc := "()V" } : Jvm.MethodName) prog_10_method_21_code (2 : Nat) (Option.none : Option Jvm.ClassFile.FieldType)) ∈ zm_tb := zm_memT4 204 rfl
theorem zw_925 : (Jvm.Cond.methodLink "NeedMachineModel" (164 : Nat) ({ cls := "NeedMachineModel", name := "giveClosure", desc := "(I)V" } : Jvm.MethodName)) ∈ zm_tb := zm_memT4 205 rfl
theorem zw_927 : (Jvm.Cond.instanceMethod ({ cls := "NeedMachineModel", name := "giveClosure", desc := "(I)V" } : Jvm.MethodName)) ∈ zm_tb := zm_memT4 207 rfl
theorem zw_928 : (Jvm.Cond.code ({ cls := "NeedMachineModel", name := "giveClosure", desc := "(I)V" } : Jvm.MethodName) prog_10_method_19_code (2 : Nat) (Option.none : Option Jvm.ClassFile.FieldType)) ∈ zm_tb := zm_memT4 208 rfl
theorem zw_929 : (Jvm.Cond.methodLink "NeedMachineModel" (157 : Nat) ({ cls := "NeedMachineModel", name := "give", desc := "(III)V" } : Jvm.MethodName)) ∈ zm_tb := zm_memT4 209 rfl
theorem zw_931 : (Jvm.Cond.instanceMethod ({ cls := "NeedMachineModel", name := "give", desc := "(III)V" } : Jvm.MethodName)) ∈ zm_tb := zm_memT4 211 rfl
theorem zw_932 : (Jvm.Cond.code ({ cls := "NeedMachineModel", name := "give", desc := "(III)V" } : Jvm.MethodName) prog_10_method_16_code (4 : Nat) (Option.none : Option Jvm.ClassFile.FieldType)) ∈ zm_tb := zm_memT4 212 rfl
theorem zw_933 : (Jvm.Cond.methodLink "NeedMachineModel" (207 : Nat) ({ cls := "NeedMachineModel", name := "goOn", desc := "(II)V" } : Jvm.MethodName)) ∈ zm_tb := zm_memT4 213 rfl
theorem zw_935 : (Jvm.Cond.instanceMethod ({ cls := "NeedMachineModel", name := "goOn", desc := "(II)V" } : Jvm.MethodName)) ∈ zm_tb := zm_memT4 215 rfl
theorem zw_936 : (Jvm.Cond.code ({ cls := "NeedMachineModel", name := "goOn", desc := "(II)V" } : Jvm.MethodName) prog_10_method_28_code (5 : Nat) (Option.none : Option Jvm.ClassFile.FieldType)) ∈ zm_tb := zm_memT4 216 rfl
theorem zw_937 : (Jvm.Cond.methodLink "NeedMachineModel" (190 : Nat) ({ cls := "NeedMachineModel", name := "apply", desc := "(I)V" } : Jvm.MethodName)) ∈ zm_tb := zm_memT4 217 rfl
theorem zw_939 : (Jvm.Cond.instanceMethod ({ cls := "NeedMachineModel", name := "apply", desc := "(I)V" } : Jvm.MethodName)) ∈ zm_tb := zm_memT4 219 rfl
theorem zw_940 : (Jvm.Cond.code ({ cls := "NeedMachineModel", name := "apply", desc := "(I)V" } : Jvm.MethodName) prog_10_method_24_code (6 : Nat) (Option.none : Option Jvm.ClassFile.FieldType)) ∈ zm_tb := zm_memT4 220 rfl
theorem zw_941 : (Jvm.Cond.methodLink "NeedMachineModel" (181 : Nat) ({ cls := "NeedMachineModel", name := "closureOf", desc := "(II)I" } : Jvm.MethodName)) ∈ zm_tb := zm_memT4 221 rfl
theorem zw_943 : (Jvm.Cond.instanceMethod ({ cls := "NeedMachineModel", name := "closureOf", desc := "(II)I" } : Jvm.MethodName)) ∈ zm_tb := zm_memT4 223 rfl
theorem zw_944 : (Jvm.Cond.code ({ cls := "NeedMachineModel", name := "closureOf", desc := "(II)I" } : Jvm.MethodName) prog_10_method_18_code (3 : Nat) (Option.some Jvm.ClassFile.FieldType.int)) ∈ zm_tb := zm_memT4 224 rfl
theorem zw_945 : (Jvm.Cond.methodLink "NeedMachineModel" (153 : Nat) ({ cls := "NeedMachineModel", name := "parameterOf", desc := "(II)I" } : Jvm.MethodName)) ∈ zm_tb := zm_memT4 225 rfl
theorem zw_947 : (Jvm.Cond.instanceMethod ({ cls := "NeedMachineModel", name := "parameterOf", desc := "(II)I" } : Jvm.MethodName)) ∈ zm_tb := zm_memT4 227 rfl
theorem zw_948 : (Jvm.Cond.code ({ cls := "NeedMachineModel", name := "parameterOf", desc := "(II)I" } : Jvm.MethodName) prog_10_method_17_code (4 : Nat) (Option.some Jvm.ClassFile.FieldType.int)) ∈ zm_tb := zm_memT4 228 rfl
theorem zw_949 : (Jvm.Cond.methodLink "NeedMachineModel" (184 : Nat) ({ cls := "NeedMachineModel", name := "countOf", desc := "(I)I" } : Jvm.MethodName)) ∈ zm_tb := zm_memT4 229 rfl
theorem zw_951 : (Jvm.Cond.instanceMethod ({ cls := "NeedMachineModel", name := "countOf", desc := "(I)I" } : Jvm.MethodName)) ∈ zm_tb := zm_memT4 231 rfl
theorem zw_952 : (Jvm.Cond.code ({ cls := "NeedMachineModel", name := "countOf", desc := "(I)I" } : Jvm.MethodName) prog_10_method_23_code (4 : Nat) (Option.some Jvm.ClassFile.FieldType.int)) ∈ zm_tb := zm_memT4 232 rfl
theorem zw_953 : (Jvm.Cond.methodLink "NeedMachineModel" (187 : Nat) ({ cls := "NeedMachineModel", name := "call", desc := "(III)V" } : Jvm.MethodName)) ∈ zm_tb := zm_memT4 233 rfl
theorem zw_955 : (Jvm.Cond.instanceMethod ({ cls := "NeedMachineModel", name := "call", desc := "(III)V" } : Jvm.MethodName)) ∈ zm_tb := zm_memT4 235 rfl
theorem zw_956 : (Jvm.Cond.code ({ cls := "NeedMachineModel", name := "call", desc := "(III)V" } : Jvm.MethodName) prog_10_method_22_code (7 : Nat) (Option.none : Option Jvm.ClassFile.FieldType)) ∈ zm_tb := zm_memT4 236 rfl
theorem zw_957 : (Jvm.Cond.methodLink "NeedMachineModel" (193 : Nat) ({ cls := "NeedMachineModel", name := "force", desc := "(I)V" } : Jvm.MethodName)) ∈ zm_tb := zm_memT4 237 rfl
theorem zw_959 : (Jvm.Cond.instanceMethod ({ cls := "NeedMachineModel", name := "force", desc := "(I)V" } : Jvm.MethodName)) ∈ zm_tb := zm_memT4 239 rfl
theorem zw_960 : (Jvm.Cond.code ({ cls := "NeedMachineModel", name := "force", desc := "(I)V" } : Jvm.MethodName) prog_10_method_20_code (2 : Nat) (Option.none : Option Jvm.ClassFile.FieldType)) ∈ zm_tb := zm_memT5 0 rfl
theorem zw_961 : (Jvm.Cond.methodLink "NeedMachineModel" (196 : Nat) ({ cls := "NeedMachineModel", name := "isNumber", desc := "()Z" } : Jvm.MethodName)) ∈ zm_tb := zm_memT5 1 rfl
theorem zw_963 : (Jvm.Cond.instanceMethod ({ cls := "NeedMachineModel", name := "isNumber", desc := "()Z" } : Jvm.MethodName)) ∈ zm_tb := zm_memT5 3 rfl
theorem zw_964 : (Jvm.Cond.code ({ cls := "NeedMachineModel", name := "isNumber", desc := "()Z" } : Jvm.MethodName) prog_10_method_27_code (1 : Nat) (Option.some Jvm.ClassFile.FieldType.boolean)) ∈ zm_tb := zm_memT5 4 rfl
theorem zw_965 : (Jvm.Cond.methodLink "NeedMachineModel" (200 : Nat) ({ cls := "NeedMachineModel", name := "binary", desc := "(III)I" } : Jvm.MethodName)) ∈ zm_tb := zm_memT5 5 rfl
theorem zw_967 : (Jvm.Cond.instanceMethod ({ cls := "NeedMachineModel", name := "binary", desc := "(III)I" } : Jvm.MethodName)) ∈ zm_tb := zm_memT5 7 rfl
theorem zw_968 : (Jvm.Cond.code ({ cls := "NeedMachineModel", name := "binary", desc := "(III)I" } : Jvm.MethodName) prog_10_method_26_code (4 : Nat) (Option.some Jvm.ClassFile.FieldType.int)) ∈ zm_tb := zm_memT5 8 rfl
theorem zw_969 : (Jvm.Cond.methodLink "NeedMachineModel" (210 : Nat) ({ cls := "NeedMachineModel", name := "nameAt", desc := "(I)V" } : Jvm.MethodName)) ∈ zm_tb := zm_memT5 9 rfl
theorem zw_971 : (Jvm.Cond.instanceMethod ({ cls := "NeedMachineModel", name := "nameAt", desc := "(I)V" } : Jvm.MethodName)) ∈ zm_tb := zm_memT5 11 rfl
theorem zw_972 : (Jvm.Cond.code ({ cls := "NeedMachineModel", name := "nameAt", desc := "(I)V" } : Jvm.MethodName) prog_10_method_25_code (2 : Nat) (Option.none : Option Jvm.ClassFile.FieldType)) ∈ zm_tb := zm_memT5 12 rfl
theorem zw_973 : (Jvm.Cond.methodLink "NeedMachineModel" (235 : Nat) ({ cls := "NeedMachineModel", name := "answer", desc := "()I" } : Jvm.MethodName)) ∈ zm_tb := zm_memT5 13 rfl
theorem zw_975 : (Jvm.Cond.instanceMethod ({ cls := "NeedMachineModel", name := "answer", desc := "()I" } : Jvm.MethodName)) ∈ zm_tb := zm_memT5 15 rfl
theorem zw_976 : (Jvm.Cond.code ({ cls := "NeedMachineModel", name := "answer", desc := "()I" } : Jvm.MethodName) prog_10_method_31_code (1 : Nat) (Option.some Jvm.ClassFile.FieldType.int)) ∈ zm_tb := zm_memT5 16 rfl
theorem zw_977 : (Jvm.Cond.methodLink "NeedMachineLaw" (67 : Nat) ({ cls := "NeedMachineModel", name := "number", desc := "()I" } : Jvm.MethodName)) ∈ zm_tb := zm_memT5 17 rfl
theorem zw_978 : (Jvm.Cond.instanceMethod ({ cls := "NeedMachineModel", name := "number", desc := "()I" } : Jvm.MethodName)) ∈ zm_tb := zm_memT5 18 rfl
theorem zw_979 : (Jvm.Cond.selects "NeedMachineModel" ({ cls := "NeedMachineModel", name := "number", desc := "()I" } : Jvm.MethodName) ({ cls := "NeedMachineModel", name := "number", desc := "()I" } : Jvm.MethodName)) ∈ zm_tb := zm_memT5 19 rfl
theorem zw_980 : (Jvm.Cond.code ({ cls := "NeedMachineModel", name := "number", desc := "()I" } : Jvm.MethodName) prog_10_method_33_code (1 : Nat) (Option.some Jvm.ClassFile.FieldType.int)) ∈ zm_tb := zm_memT5 20 rfl
theorem zw_981 : (Jvm.Cond.methodLink "NeedMachineLaw" (70 : Nat) ({ cls := "NeedMachineModel", name := "head", desc := "()I" } : Jvm.MethodName)) ∈ zm_tb := zm_memT5 21 rfl
theorem zw_982 : (Jvm.Cond.instanceMethod ({ cls := "NeedMachineModel", name := "head", desc := "()I" } : Jvm.MethodName)) ∈ zm_tb := zm_memT5 22 rfl
theorem zw_983 : (Jvm.Cond.selects "NeedMachineModel" ({ cls := "NeedMachineModel", name := "head", desc := "()I" } : Jvm.MethodName) ({ cls := "NeedMachineModel", name := "head", desc := "()I" } : Jvm.MethodName)) ∈ zm_tb := zm_memT5 23 rfl
theorem zw_984 : (Jvm.Cond.code ({ cls := "NeedMachineModel", name := "head", desc := "()I" } : Jvm.MethodName) prog_10_method_35_code (1 : Nat) (Option.some Jvm.ClassFile.FieldType.int)) ∈ zm_tb := zm_memT5 24 rfl
theorem zw_985 : (Jvm.Cond.methodLink "NeedMachineModel" (238 : Nat) ({ cls := "NeedMachineModel", name := "side", desc := "(Z)Z" } : Jvm.MethodName)) ∈ zm_tb := zm_memT5 25 rfl
theorem zw_987 : (Jvm.Cond.instanceMethod ({ cls := "NeedMachineModel", name := "side", desc := "(Z)Z" } : Jvm.MethodName)) ∈ zm_tb := zm_memT5 27 rfl
theorem zw_988 : (Jvm.Cond.code ({ cls := "NeedMachineModel", name := "side", desc := "(Z)Z" } : Jvm.MethodName) prog_10_method_34_code (3 : Nat) (Option.some Jvm.ClassFile.FieldType.boolean)) ∈ zm_tb := zm_memT5 28 rfl
theorem zw_989 : (Jvm.Cond.methodLink "NeedMachineLaw" (73 : Nat) ({ cls := "NeedMachineModel", name := "tail", desc := "()I" } : Jvm.MethodName)) ∈ zm_tb := zm_memT5 29 rfl
theorem zw_990 : (Jvm.Cond.instanceMethod ({ cls := "NeedMachineModel", name := "tail", desc := "()I" } : Jvm.MethodName)) ∈ zm_tb := zm_memT5 30 rfl
theorem zw_991 : (Jvm.Cond.selects "NeedMachineModel" ({ cls := "NeedMachineModel", name := "tail", desc := "()I" } : Jvm.MethodName) ({ cls := "NeedMachineModel", name := "tail", desc := "()I" } : Jvm.MethodName)) ∈ zm_tb := zm_memT5 31 rfl
theorem zw_992 : (Jvm.Cond.code ({ cls := "NeedMachineModel", name := "tail", desc := "()I" } : Jvm.MethodName) prog_10_method_36_code (1 : Nat) (Option.some Jvm.ClassFile.FieldType.int)) ∈ zm_tb := zm_memT5 32 rfl
theorem zw_993 : (Jvm.Cond.methodLink "NeedMachineLaw" (77 : Nat) ({ cls := "NeedMachineModel", name := "remove", desc := "(I)V" } : Jvm.MethodName)) ∈ zm_tb := zm_memT5 33 rfl
theorem zw_994 : (Jvm.Cond.instanceMethod ({ cls := "NeedMachineModel", name := "remove", desc := "(I)V" } : Jvm.MethodName)) ∈ zm_tb := zm_memT5 34 rfl
theorem zw_995 : (Jvm.Cond.selects "NeedMachineModel" ({ cls := "NeedMachineModel", name := "remove", desc := "(I)V" } : Jvm.MethodName) ({ cls := "NeedMachineModel", name := "remove", desc := "(I)V" } : Jvm.MethodName)) ∈ zm_tb := zm_memT5 35 rfl
theorem zw_996 : (Jvm.Cond.code ({ cls := "NeedMachineModel", name := "remove", desc := "(I)V" } : Jvm.MethodName) prog_10_method_37_code (2 : Nat) (Option.none : Option Jvm.ClassFile.FieldType)) ∈ zm_tb := zm_memT5 36 rfl
theorem zw_997 : (Jvm.Cond.methodLink "NeedMachineLaw" (82 : Nat) ({ cls := "NeedMachineModel", name := "count", desc := "(I)I" } : Jvm.MethodName)) ∈ zm_tb := zm_memT5 37 rfl
theorem zw_998 : (Jvm.Cond.instanceMethod ({ cls := "NeedMachineModel", name := "count", desc := "(I)I" } : Jvm.MethodName)) ∈ zm_tb := zm_memT5 38 rfl
theorem zw_999 : (Jvm.Cond.selects "NeedMachineModel" ({ cls := "NeedMachineModel", name := "count", desc := "(I)I" } : Jvm.MethodName) ({ cls := "NeedMachineModel", name := "count", desc := "(I)I" } : Jvm.MethodName)) ∈ zm_tb := zm_memT5 39 rfl
theorem zw_1000 : (Jvm.Cond.code ({ cls := "NeedMachineModel", name := "count", desc := "(I)I" } : Jvm.MethodName) prog_10_method_38_code (4 : Nat) (Option.some Jvm.ClassFile.FieldType.int)) ∈ zm_tb := zm_memT5 40 rfl
theorem zw_1001 : (Jvm.Cond.constantLong "NeedMachineLaw" (47 : Nat) (4294967295 : Int64)) ∈ zm_tb := zm_memT5 41 rfl
theorem zw_1002 : (Jvm.Cond.arrayClass Jvm.ClassFile.FieldType.long) ∈ zm_tb := zm_memT5 42 rfl
theorem zm_f0 : (∀ w ∈ u_ws "NeedMachine" zm_T0 9, w ∈ zm_tb) ∧ (∀ k, k < 9 → parseFieldDescriptor (zm_T0 k).2.2.1 = some (zm_fty 0 k)) ∧ ∀ a, a < 9 → ∀ b, b < 9 → a ≠ b → (zm_T0 a).2.1 ≠ (zm_T0 b).2.1 := ⟨by decide +kernel, by decide +kernel, by decide +kernel⟩
theorem zm_f1 : (∀ w ∈ u_ws "NeedMachine$Text" zm_T1 8, w ∈ zm_tb) ∧ (∀ k, k < 8 → parseFieldDescriptor (zm_T1 k).2.2.1 = some (zm_fty 1 k)) ∧ ∀ a, a < 8 → ∀ b, b < 8 → a ≠ b → (zm_T1 a).2.1 ≠ (zm_T1 b).2.1 := ⟨by decide +kernel, by decide +kernel, by decide +kernel⟩
theorem zm_f2 : (∀ w ∈ u_ws "NeedMachine$Store" zm_T2 7, w ∈ zm_tb) ∧ (∀ k, k < 7 → parseFieldDescriptor (zm_T2 k).2.2.1 = some (zm_fty 2 k)) ∧ ∀ a, a < 7 → ∀ b, b < 7 → a ≠ b → (zm_T2 a).2.1 ≠ (zm_T2 b).2.1 := ⟨by decide +kernel, by decide +kernel, by decide +kernel⟩
theorem zm_f3 : (∀ w ∈ u_ws "NeedMachine$Value" zm_T3 5, w ∈ zm_tb) ∧ (∀ k, k < 5 → parseFieldDescriptor (zm_T3 k).2.2.1 = some (zm_fty 3 k)) ∧ ∀ a, a < 5 → ∀ b, b < 5 → a ≠ b → (zm_T3 a).2.1 ≠ (zm_T3 b).2.1 := ⟨by decide +kernel, by decide +kernel, by decide +kernel⟩
theorem zm_f4 : (∀ w ∈ u_ws "java/util/ArrayList" zm_T4 3, w ∈ zm_tb) ∧ (∀ k, k < 3 → parseFieldDescriptor (zm_T4 k).2.2.1 = some (zm_fty 4 k)) ∧ ∀ a, a < 3 → ∀ b, b < 3 → a ≠ b → (zm_T4 a).2.1 ≠ (zm_T4 b).2.1 := ⟨by decide +kernel, by decide +kernel, by decide +kernel⟩
theorem zm_f5 : (∀ w ∈ u_ws "NeedMachineModel" zm_T5 44, w ∈ zm_tb) ∧ (∀ k, k < 44 → parseFieldDescriptor (zm_T5 k).2.2.1 = some (zm_fty 5 k)) ∧ ∀ a, a < 44 → ∀ b, b < 44 → a ≠ b → (zm_T5 a).2.1 ≠ (zm_T5 b).2.1 := ⟨by decide +kernel, by decide +kernel, by decide +kernel⟩
theorem zm_f6 : (∀ w ∈ u_ws "NeedMachine$Definition" zm_T6 3, w ∈ zm_tb) ∧ (∀ k, k < 3 → parseFieldDescriptor (zm_T6 k).2.2.1 = some (zm_fty 6 k)) ∧ ∀ a, a < 3 → ∀ b, b < 3 → a ≠ b → (zm_T6 a).2.1 ≠ (zm_T6 b).2.1 := ⟨by decide +kernel, by decide +kernel, by decide +kernel⟩
theorem zm_f7 : (∀ w ∈ u_ws "NeedMachine$Expression" zm_T7 5, w ∈ zm_tb) ∧ (∀ k, k < 5 → parseFieldDescriptor (zm_T7 k).2.2.1 = some (zm_fty 7 k)) ∧ ∀ a, a < 5 → ∀ b, b < 5 → a ≠ b → (zm_T7 a).2.1 ≠ (zm_T7 b).2.1 := ⟨by decide +kernel, by decide +kernel, by decide +kernel⟩
theorem zm_f8 : (∀ w ∈ u_ws "NeedMachine$Closure" zm_T8 4, w ∈ zm_tb) ∧ (∀ k, k < 4 → parseFieldDescriptor (zm_T8 k).2.2.1 = some (zm_fty 8 k)) ∧ ∀ a, a < 4 → ∀ b, b < 4 → a ≠ b → (zm_T8 a).2.1 ≠ (zm_T8 b).2.1 := ⟨by decide +kernel, by decide +kernel, by decide +kernel⟩
theorem zm_f9 : (∀ w ∈ u_ws "NeedMachine$Arguments" zm_T9 3, w ∈ zm_tb) ∧ (∀ k, k < 3 → parseFieldDescriptor (zm_T9 k).2.2.1 = some (zm_fty 9 k)) ∧ ∀ a, a < 3 → ∀ b, b < 3 → a ≠ b → (zm_T9 a).2.1 ≠ (zm_T9 b).2.1 := ⟨by decide +kernel, by decide +kernel, by decide +kernel⟩
end
section
theorem zd_0 : (zm_c0.all fun e => decide (decode (zm_by 0) e.1 = .ok (e.2.1, zm_ln e.2))) = true := by decide +kernel
theorem zd_1 : (zm_c1.all fun e => decide (decode (zm_by 1) e.1 = .ok (e.2.1, zm_ln e.2))) = true := by decide +kernel
theorem zd_2 : (zm_c2.all fun e => decide (decode (zm_by 2) e.1 = .ok (e.2.1, zm_ln e.2))) = true := by decide +kernel
theorem zd_3 : (zm_c3.all fun e => decide (decode (zm_by 3) e.1 = .ok (e.2.1, zm_ln e.2))) = true := by decide +kernel
theorem zd_4 : (zm_c4.all fun e => decide (decode (zm_by 4) e.1 = .ok (e.2.1, zm_ln e.2))) = true := by decide +kernel
theorem zd_5 : (zm_c5.all fun e => decide (decode (zm_by 5) e.1 = .ok (e.2.1, zm_ln e.2))) = true := by decide +kernel
theorem zd_6 : (zm_c6.all fun e => decide (decode (zm_by 6) e.1 = .ok (e.2.1, zm_ln e.2))) = true := by decide +kernel
theorem zd_7 : (zm_c7.all fun e => decide (decode (zm_by 7) e.1 = .ok (e.2.1, zm_ln e.2))) = true := by decide +kernel
theorem zd_8 : (zm_c8.all fun e => decide (decode (zm_by 8) e.1 = .ok (e.2.1, zm_ln e.2))) = true := by decide +kernel
theorem zd_9 : (zm_c9.all fun e => decide (decode (zm_by 9) e.1 = .ok (e.2.1, zm_ln e.2))) = true := by decide +kernel
theorem zd_10 : (zm_c10.all fun e => decide (decode (zm_by 10) e.1 = .ok (e.2.1, zm_ln e.2))) = true := by decide +kernel
theorem zd_11 : (zm_c11.all fun e => decide (decode (zm_by 11) e.1 = .ok (e.2.1, zm_ln e.2))) = true := by decide +kernel
theorem zd_12 : (zm_c12.all fun e => decide (decode (zm_by 12) e.1 = .ok (e.2.1, zm_ln e.2))) = true := by decide +kernel
theorem zd_13 : (zm_c13.all fun e => decide (decode (zm_by 13) e.1 = .ok (e.2.1, zm_ln e.2))) = true := by decide +kernel
theorem zd_14 : (zm_c14.all fun e => decide (decode (zm_by 14) e.1 = .ok (e.2.1, zm_ln e.2))) = true := by decide +kernel
theorem zd_15 : (zm_c15.all fun e => decide (decode (zm_by 15) e.1 = .ok (e.2.1, zm_ln e.2))) = true := by decide +kernel
theorem zd_16 : (zm_c16.all fun e => decide (decode (zm_by 16) e.1 = .ok (e.2.1, zm_ln e.2))) = true := by decide +kernel
theorem zd_17 : (zm_c17.all fun e => decide (decode (zm_by 17) e.1 = .ok (e.2.1, zm_ln e.2))) = true := by decide +kernel
theorem zd_18 : (zm_c18.all fun e => decide (decode (zm_by 18) e.1 = .ok (e.2.1, zm_ln e.2))) = true := by decide +kernel
theorem zd_19 : (zm_c19.all fun e => decide (decode (zm_by 19) e.1 = .ok (e.2.1, zm_ln e.2))) = true := by decide +kernel
theorem zd_20 : (zm_c20.all fun e => decide (decode (zm_by 20) e.1 = .ok (e.2.1, zm_ln e.2))) = true := by decide +kernel
theorem zd_21 : (zm_c21.all fun e => decide (decode (zm_by 21) e.1 = .ok (e.2.1, zm_ln e.2))) = true := by decide +kernel
theorem zd_22 : (zm_c22.all fun e => decide (decode (zm_by 22) e.1 = .ok (e.2.1, zm_ln e.2))) = true := by decide +kernel
theorem zd_23 : (zm_c23.all fun e => decide (decode (zm_by 23) e.1 = .ok (e.2.1, zm_ln e.2))) = true := by decide +kernel
theorem zd_24 : (zm_c24.all fun e => decide (decode (zm_by 24) e.1 = .ok (e.2.1, zm_ln e.2))) = true := by decide +kernel
theorem zd_25 : (zm_c25.all fun e => decide (decode (zm_by 25) e.1 = .ok (e.2.1, zm_ln e.2))) = true := by decide +kernel
theorem zd_26 : (zm_c26.all fun e => decide (decode (zm_by 26) e.1 = .ok (e.2.1, zm_ln e.2))) = true := by decide +kernel
theorem zd_27 : (zm_c27.all fun e => decide (decode (zm_by 27) e.1 = .ok (e.2.1, zm_ln e.2))) = true := by decide +kernel
theorem zd_28 : (zm_c28.all fun e => decide (decode (zm_by 28) e.1 = .ok (e.2.1, zm_ln e.2))) = true := by decide +kernel
theorem zd_29 : (zm_c29.all fun e => decide (decode (zm_by 29) e.1 = .ok (e.2.1, zm_ln e.2))) = true := by decide +kernel
theorem zd_30 : (zm_c30.all fun e => decide (decode (zm_by 30) e.1 = .ok (e.2.1, zm_ln e.2))) = true := by decide +kernel
theorem zd_31 : (zm_c31.all fun e => decide (decode (zm_by 31) e.1 = .ok (e.2.1, zm_ln e.2))) = true := by decide +kernel
theorem zd_32 : (zm_c32.all fun e => decide (decode (zm_by 32) e.1 = .ok (e.2.1, zm_ln e.2))) = true := by decide +kernel
theorem zd_33 : (zm_c33.all fun e => decide (decode (zm_by 33) e.1 = .ok (e.2.1, zm_ln e.2))) = true := by decide +kernel
theorem zd_34 : (zm_c34.all fun e => decide (decode (zm_by 34) e.1 = .ok (e.2.1, zm_ln e.2))) = true := by decide +kernel
theorem zd_35 : (zm_c35.all fun e => decide (decode (zm_by 35) e.1 = .ok (e.2.1, zm_ln e.2))) = true := by decide +kernel
theorem zd_36 : (zm_c36.all fun e => decide (decode (zm_by 36) e.1 = .ok (e.2.1, zm_ln e.2))) = true := by decide +kernel
theorem zd_37 : (zm_c37.all fun e => decide (decode (zm_by 37) e.1 = .ok (e.2.1, zm_ln e.2))) = true := by decide +kernel
theorem zd_38 : (zm_c38.all fun e => decide (decode (zm_by 38) e.1 = .ok (e.2.1, zm_ln e.2))) = true := by decide +kernel
theorem zd_39 : (zm_c39.all fun e => decide (decode (zm_by 39) e.1 = .ok (e.2.1, zm_ln e.2))) = true := by decide +kernel
theorem zd_40 : (zm_c40.all fun e => decide (decode (zm_by 40) e.1 = .ok (e.2.1, zm_ln e.2))) = true := by decide +kernel
theorem zd_41 : (zm_c41.all fun e => decide (decode (zm_by 41) e.1 = .ok (e.2.1, zm_ln e.2))) = true := by decide +kernel
theorem zd_42 : (zm_c42.all fun e => decide (decode (zm_by 42) e.1 = .ok (e.2.1, zm_ln e.2))) = true := by decide +kernel
theorem zd_43 : (zm_c43.all fun e => decide (decode (zm_by 43) e.1 = .ok (e.2.1, zm_ln e.2))) = true := by decide +kernel
theorem zd_44 : (zm_c44.all fun e => decide (decode (zm_by 44) e.1 = .ok (e.2.1, zm_ln e.2))) = true := by decide +kernel
theorem zd_45 : (zm_c45.all fun e => decide (decode (zm_by 45) e.1 = .ok (e.2.1, zm_ln e.2))) = true := by decide +kernel
theorem zd_46 : (zm_c46.all fun e => decide (decode (zm_by 46) e.1 = .ok (e.2.1, zm_ln e.2))) = true := by decide +kernel
theorem zd_47 : (zm_c47.all fun e => decide (decode (zm_by 47) e.1 = .ok (e.2.1, zm_ln e.2))) = true := by decide +kernel
theorem zd_48 : (zm_c48.all fun e => decide (decode (zm_by 48) e.1 = .ok (e.2.1, zm_ln e.2))) = true := by decide +kernel
theorem zd_49 : (zm_c49.all fun e => decide (decode (zm_by 49) e.1 = .ok (e.2.1, zm_ln e.2))) = true := by decide +kernel
theorem zd_50 : (zm_c50.all fun e => decide (decode (zm_by 50) e.1 = .ok (e.2.1, zm_ln e.2))) = true := by decide +kernel
theorem zd_51 : (zm_c51.all fun e => decide (decode (zm_by 51) e.1 = .ok (e.2.1, zm_ln e.2))) = true := by decide +kernel
theorem zd_52 : (zm_c52.all fun e => decide (decode (zm_by 52) e.1 = .ok (e.2.1, zm_ln e.2))) = true := by decide +kernel
theorem zd_53 : (zm_c53.all fun e => decide (decode (zm_by 53) e.1 = .ok (e.2.1, zm_ln e.2))) = true := by decide +kernel
end
section
theorem zd_54 : (zm_c54.all fun e => decide (decode (zm_by 54) e.1 = .ok (e.2.1, zm_ln e.2))) = true := by decide +kernel
theorem zd_55 : (zm_c55.all fun e => decide (decode (zm_by 55) e.1 = .ok (e.2.1, zm_ln e.2))) = true := by decide +kernel
theorem zd_56 : (zm_c56.all fun e => decide (decode (zm_by 56) e.1 = .ok (e.2.1, zm_ln e.2))) = true := by decide +kernel
theorem zd_57 : (zm_c57.all fun e => decide (decode (zm_by 57) e.1 = .ok (e.2.1, zm_ln e.2))) = true := by decide +kernel
theorem zd_58 : (zm_c58.all fun e => decide (decode (zm_by 58) e.1 = .ok (e.2.1, zm_ln e.2))) = true := by decide +kernel
theorem zd_59 : (zm_c59.all fun e => decide (decode (zm_by 59) e.1 = .ok (e.2.1, zm_ln e.2))) = true := by decide +kernel
theorem zd_60 : (zm_c60.all fun e => decide (decode (zm_by 60) e.1 = .ok (e.2.1, zm_ln e.2))) = true := by decide +kernel
theorem zd_61 : (zm_c61.all fun e => decide (decode (zm_by 61) e.1 = .ok (e.2.1, zm_ln e.2))) = true := by decide +kernel
theorem zd_62 : (zm_c62.all fun e => decide (decode (zm_by 62) e.1 = .ok (e.2.1, zm_ln e.2))) = true := by decide +kernel
theorem zd_63 : (zm_c63.all fun e => decide (decode (zm_by 63) e.1 = .ok (e.2.1, zm_ln e.2))) = true := by decide +kernel
theorem zd_64 : (zm_c64.all fun e => decide (decode (zm_by 64) e.1 = .ok (e.2.1, zm_ln e.2))) = true := by decide +kernel
theorem zd_65 : (zm_c65.all fun e => decide (decode (zm_by 65) e.1 = .ok (e.2.1, zm_ln e.2))) = true := by decide +kernel
theorem zd_66 : (zm_c66.all fun e => decide (decode (zm_by 66) e.1 = .ok (e.2.1, zm_ln e.2))) = true := by decide +kernel
theorem zd_67 : (zm_c67.all fun e => decide (decode (zm_by 67) e.1 = .ok (e.2.1, zm_ln e.2))) = true := by decide +kernel
theorem zd_68 : (zm_c68.all fun e => decide (decode (zm_by 68) e.1 = .ok (e.2.1, zm_ln e.2))) = true := by decide +kernel
theorem zd_69 : (zm_c69.all fun e => decide (decode (zm_by 69) e.1 = .ok (e.2.1, zm_ln e.2))) = true := by decide +kernel
theorem zd_70 : (zm_c70.all fun e => decide (decode (zm_by 70) e.1 = .ok (e.2.1, zm_ln e.2))) = true := by decide +kernel
theorem zd_71 : (zm_c71.all fun e => decide (decode (zm_by 71) e.1 = .ok (e.2.1, zm_ln e.2))) = true := by decide +kernel
theorem zd_72 : (zm_c72.all fun e => decide (decode (zm_by 72) e.1 = .ok (e.2.1, zm_ln e.2))) = true := by decide +kernel
theorem zd_73 : (zm_c73.all fun e => decide (decode (zm_by 73) e.1 = .ok (e.2.1, zm_ln e.2))) = true := by decide +kernel
theorem zd_74 : (zm_c74.all fun e => decide (decode (zm_by 74) e.1 = .ok (e.2.1, zm_ln e.2))) = true := by decide +kernel
theorem zd_75 : (zm_c75.all fun e => decide (decode (zm_by 75) e.1 = .ok (e.2.1, zm_ln e.2))) = true := by decide +kernel
theorem zd_76 : (zm_c76.all fun e => decide (decode (zm_by 76) e.1 = .ok (e.2.1, zm_ln e.2))) = true := by decide +kernel
theorem zd_77 : (zm_c77.all fun e => decide (decode (zm_by 77) e.1 = .ok (e.2.1, zm_ln e.2))) = true := by decide +kernel
theorem zd_78 : (zm_c78.all fun e => decide (decode (zm_by 78) e.1 = .ok (e.2.1, zm_ln e.2))) = true := by decide +kernel
theorem zd_79 : (zm_c79.all fun e => decide (decode (zm_by 79) e.1 = .ok (e.2.1, zm_ln e.2))) = true := by decide +kernel
theorem zd_80 : (zm_c80.all fun e => decide (decode (zm_by 80) e.1 = .ok (e.2.1, zm_ln e.2))) = true := by decide +kernel
theorem zd_81 : (zm_c81.all fun e => decide (decode (zm_by 81) e.1 = .ok (e.2.1, zm_ln e.2))) = true := by decide +kernel
theorem zd_82 : (zm_c82.all fun e => decide (decode (zm_by 82) e.1 = .ok (e.2.1, zm_ln e.2))) = true := by decide +kernel
theorem zd_83 : (zm_c83.all fun e => decide (decode (zm_by 83) e.1 = .ok (e.2.1, zm_ln e.2))) = true := by decide +kernel
theorem zd_84 : (zm_c84.all fun e => decide (decode (zm_by 84) e.1 = .ok (e.2.1, zm_ln e.2))) = true := by decide +kernel
theorem zd_85 : (zm_c85.all fun e => decide (decode (zm_by 85) e.1 = .ok (e.2.1, zm_ln e.2))) = true := by decide +kernel
theorem zd_86 : (zm_c86.all fun e => decide (decode (zm_by 86) e.1 = .ok (e.2.1, zm_ln e.2))) = true := by decide +kernel
theorem zd_87 : (zm_c87.all fun e => decide (decode (zm_by 87) e.1 = .ok (e.2.1, zm_ln e.2))) = true := by decide +kernel
theorem zd_88 : (zm_c88.all fun e => decide (decode (zm_by 88) e.1 = .ok (e.2.1, zm_ln e.2))) = true := by decide +kernel
theorem zd_89 : (zm_c89.all fun e => decide (decode (zm_by 89) e.1 = .ok (e.2.1, zm_ln e.2))) = true := by decide +kernel
theorem zd_90 : (zm_c90.all fun e => decide (decode (zm_by 90) e.1 = .ok (e.2.1, zm_ln e.2))) = true := by decide +kernel
theorem zd_91 : (zm_c91.all fun e => decide (decode (zm_by 91) e.1 = .ok (e.2.1, zm_ln e.2))) = true := by decide +kernel
theorem zd_92 : (zm_c92.all fun e => decide (decode (zm_by 92) e.1 = .ok (e.2.1, zm_ln e.2))) = true := by decide +kernel
theorem zd_93 : (zm_c93.all fun e => decide (decode (zm_by 93) e.1 = .ok (e.2.1, zm_ln e.2))) = true := by decide +kernel
theorem zd_94 : (zm_c94.all fun e => decide (decode (zm_by 94) e.1 = .ok (e.2.1, zm_ln e.2))) = true := by decide +kernel
theorem zd_95 : (zm_c95.all fun e => decide (decode (zm_by 95) e.1 = .ok (e.2.1, zm_ln e.2))) = true := by decide +kernel
theorem zd_96 : (zm_c96.all fun e => decide (decode (zm_by 96) e.1 = .ok (e.2.1, zm_ln e.2))) = true := by decide +kernel
theorem zd_97 : (zm_c97.all fun e => decide (decode (zm_by 97) e.1 = .ok (e.2.1, zm_ln e.2))) = true := by decide +kernel
theorem zd_98 : (zm_c98.all fun e => decide (decode (zm_by 98) e.1 = .ok (e.2.1, zm_ln e.2))) = true := by decide +kernel
theorem zd_99 : (zm_c99.all fun e => decide (decode (zm_by 99) e.1 = .ok (e.2.1, zm_ln e.2))) = true := by decide +kernel
theorem zd_100 : (zm_c100.all fun e => decide (decode (zm_by 100) e.1 = .ok (e.2.1, zm_ln e.2))) = true := by decide +kernel
theorem zd_101 : (zm_c101.all fun e => decide (decode (zm_by 101) e.1 = .ok (e.2.1, zm_ln e.2))) = true := by decide +kernel
theorem zd_102 : (zm_c102.all fun e => decide (decode (zm_by 102) e.1 = .ok (e.2.1, zm_ln e.2))) = true := by decide +kernel
theorem zd_103 : (zm_c103.all fun e => decide (decode (zm_by 103) e.1 = .ok (e.2.1, zm_ln e.2))) = true := by decide +kernel
theorem zd_104 : (zm_c104.all fun e => decide (decode (zm_by 104) e.1 = .ok (e.2.1, zm_ln e.2))) = true := by decide +kernel
theorem zd_105 : (zm_c105.all fun e => decide (decode (zm_by 105) e.1 = .ok (e.2.1, zm_ln e.2))) = true := by decide +kernel
theorem zd_106 : (zm_c106.all fun e => decide (decode (zm_by 106) e.1 = .ok (e.2.1, zm_ln e.2))) = true := by decide +kernel
theorem zd_107 : (zm_c107.all fun e => decide (decode (zm_by 107) e.1 = .ok (e.2.1, zm_ln e.2))) = true := by decide +kernel
end
section
set_option maxRecDepth 100000 in
theorem zq_0 : ∀ e ∈ zm_c0, zm_okq 0 e.2 := List.forall_mem_cons.mpr ⟨⟨_, _, _, rfl, rfl, zm_f0.1, zm_f0.2.1, zw_27, zw_28, zw_1⟩, List.forall_mem_cons.mpr ⟨trivial, List.forall_mem_cons.mpr ⟨trivial, List.forall_mem_cons.mpr ⟨trivial, List.forall_mem_cons.mpr ⟨⟨_, _, _, rfl, rfl, zm_f5.1, zm_f5.2.1, zw_714, zw_715, zw_8⟩, List.forall_mem_cons.mpr ⟨trivial, List.forall_mem_cons.mpr ⟨trivial, List.forall_mem_cons.mpr ⟨trivial, List.forall_mem_cons.mpr ⟨trivial, List.forall_mem_cons.mpr ⟨⟨_, rfl, rfl, zw_1002⟩, List.forall_mem_cons.mpr ⟨trivial, List.forall_mem_cons.mpr ⟨trivial, List.forall_mem_cons.mpr ⟨trivial, List.forall_mem_cons.mpr ⟨trivial, List.forall_mem_cons.mpr ⟨trivial, List.forall_mem_cons.mpr ⟨trivial, List.forall_mem_cons.mpr ⟨trivial, List.forall_mem_cons.mpr ⟨trivial, List.forall_mem_cons.mpr ⟨trivial, List.forall_mem_cons.mpr ⟨trivial, List.forall_mem_cons.mpr ⟨trivial, List.forall_mem_cons.mpr ⟨trivial, List.forall_mem_cons.mpr ⟨trivial, List.forall_mem_cons.mpr ⟨trivial, List.forall_mem_cons.mpr ⟨trivial, List.forall_mem_cons.mpr ⟨trivial, List.forall_mem_cons.mpr ⟨trivial, List.forall_mem_cons.mpr ⟨trivial, List.forall_mem_cons.mpr ⟨trivial, List.forall_mem_cons.mpr ⟨trivial, List.forall_mem_cons.mpr ⟨trivial, List.forall_mem_cons.mpr ⟨trivial, List.forall_mem_cons.mpr ⟨trivial, List.forall_mem_cons.mpr ⟨trivial, List.forall_mem_cons.mpr ⟨trivial, List.forall_mem_cons.mpr ⟨trivial, List.forall_mem_cons.mpr ⟨trivial, List.forall_mem_cons.mpr ⟨trivial, List.forall_mem_cons.mpr ⟨trivial, List.forall_mem_cons.mpr ⟨trivial, List.forall_mem_cons.mpr ⟨zw_1001, List.forall_mem_cons.mpr ⟨trivial, List.forall_mem_cons.mpr ⟨trivial, List.forall_mem_cons.mpr ⟨trivial, List.forall_mem_cons.mpr ⟨trivial, List.forall_mem_cons.mpr ⟨trivial, List.forall_mem_cons.mpr ⟨trivial, List.forall_mem_cons.mpr ⟨trivial, List.forall_mem_cons.mpr ⟨trivial, List.forall_mem_cons.mpr ⟨trivial, List.forall_mem_cons.mpr ⟨trivial, List.forall_mem_cons.mpr ⟨trivial, List.forall_mem_cons.mpr ⟨trivial, List.forall_mem_cons.mpr ⟨trivial, List.forall_mem_cons.mpr ⟨trivial, List.forall_mem_cons.mpr ⟨trivial, List.forall_mem_cons.mpr ⟨trivial, List.forall_mem_cons.mpr ⟨trivial, List.forall_mem_cons.mpr ⟨trivial, List.forall_mem_cons.mpr ⟨trivial, List.forall_mem_cons.mpr ⟨trivial, List.forall_mem_cons.mpr ⟨zw_1001, List.forall_mem_cons.mpr ⟨trivial, List.forall_mem_cons.mpr ⟨trivial, List.forall_mem_cons.mpr ⟨trivial, List.forall_mem_cons.mpr ⟨trivial, List.forall_mem_cons.mpr ⟨trivial, List.forall_mem_cons.mpr ⟨trivial, List.forall_mem_cons.mpr ⟨trivial, List.forall_mem_cons.mpr ⟨trivial, List.forall_mem_cons.mpr ⟨trivial, List.forall_mem_cons.mpr ⟨trivial, List.forall_mem_cons.mpr ⟨trivial, List.forall_mem_cons.mpr ⟨trivial, List.forall_mem_cons.mpr ⟨trivial, List.forall_mem_cons.mpr ⟨trivial, List.forall_mem_cons.mpr ⟨trivial, List.forall_mem_cons.mpr ⟨trivial, List.forall_mem_cons.mpr ⟨trivial, List.forall_mem_cons.mpr ⟨trivial, List.forall_mem_cons.mpr ⟨trivial, List.forall_mem_cons.mpr ⟨trivial, List.forall_mem_cons.mpr ⟨trivial, List.forall_mem_cons.mpr ⟨trivial, List.forall_mem_cons.mpr ⟨trivial, List.forall_mem_cons.mpr ⟨trivial, List.forall_mem_cons.mpr ⟨trivial, List.forall_mem_cons.mpr ⟨trivial, List.forall_mem_cons.mpr ⟨trivial, List.forall_mem_cons.mpr ⟨trivial, List.forall_mem_cons.mpr ⟨trivial, List.forall_mem_cons.mpr ⟨trivial, List.forall_mem_cons.mpr ⟨trivial, List.forall_mem_cons.mpr ⟨trivial, List.forall_mem_cons.mpr ⟨trivial, List.forall_mem_cons.mpr ⟨trivial, List.forall_mem_cons.mpr ⟨trivial, List.forall_mem_cons.mpr ⟨trivial, List.forall_mem_cons.mpr ⟨trivial, List.forall_mem_cons.mpr ⟨trivial, List.forall_mem_cons.mpr ⟨trivial, List.forall_mem_cons.mpr ⟨trivial, List.forall_mem_cons.mpr ⟨trivial, List.forall_mem_cons.mpr ⟨trivial, List.forall_mem_cons.mpr ⟨trivial, List.forall_mem_cons.mpr ⟨trivial, List.forall_mem_cons.mpr ⟨trivial, List.forall_mem_cons.mpr ⟨trivial, List.forall_mem_cons.mpr ⟨trivial, List.forall_mem_cons.mpr ⟨trivial, List.forall_mem_cons.mpr ⟨trivial, List.forall_mem_cons.mpr ⟨trivial, List.forall_mem_cons.mpr ⟨trivial, List.forall_mem_cons.mpr ⟨trivial, List.forall_mem_cons.mpr ⟨trivial, List.forall_mem_cons.mpr ⟨trivial, List.forall_mem_cons.mpr ⟨trivial, List.forall_mem_cons.mpr ⟨trivial, List.forall_mem_cons.mpr ⟨trivial, List.forall_mem_cons.mpr ⟨trivial, List.forall_mem_cons.mpr ⟨trivial, List.forall_mem_cons.mpr ⟨trivial, List.forall_mem_cons.mpr ⟨trivial, List.forall_mem_cons.mpr ⟨trivial, List.forall_mem_cons.mpr ⟨trivial, List.forall_mem_cons.mpr ⟨trivial, List.forall_mem_cons.mpr ⟨trivial, List.forall_mem_cons.mpr ⟨trivial, List.forall_mem_cons.mpr ⟨trivial, List.forall_mem_cons.mpr ⟨trivial, List.forall_mem_cons.mpr ⟨trivial, List.forall_mem_cons.mpr ⟨trivial, List.forall_mem_cons.mpr ⟨trivial, List.forall_mem_cons.mpr ⟨trivial, List.forall_mem_cons.mpr ⟨trivial, List.forall_mem_cons.mpr ⟨trivial, List.forall_mem_cons.mpr ⟨trivial, List.forall_mem_cons.mpr ⟨trivial, List.forall_mem_cons.mpr ⟨trivial, List.forall_mem_cons.mpr ⟨trivial, List.forall_mem_cons.mpr ⟨trivial, List.forall_mem_cons.mpr ⟨trivial, List.forall_mem_cons.mpr ⟨trivial, List.forall_mem_cons.mpr ⟨trivial, List.forall_mem_cons.mpr ⟨trivial, List.forall_mem_cons.mpr ⟨trivial, List.forall_mem_cons.mpr ⟨trivial, List.forall_mem_cons.mpr ⟨trivial, List.forall_mem_cons.mpr ⟨trivial, List.forall_mem_cons.mpr ⟨trivial, List.forall_mem_cons.mpr ⟨trivial, List.forall_mem_cons.mpr ⟨trivial, List.forall_mem_cons.mpr ⟨trivial, List.forall_mem_cons.mpr ⟨trivial, List.forall_mem_cons.mpr ⟨trivial, List.forall_mem_cons.mpr ⟨trivial, List.forall_mem_cons.mpr ⟨trivial, List.forall_mem_cons.mpr ⟨trivial, List.forall_mem_cons.mpr ⟨trivial, List.forall_mem_cons.mpr ⟨trivial, List.forall_mem_cons.mpr ⟨trivial, List.forall_mem_cons.mpr ⟨trivial, List.forall_mem_cons.mpr ⟨trivial, List.forall_mem_cons.mpr ⟨trivial, List.forall_mem_cons.mpr ⟨trivial, List.forall_mem_cons.mpr ⟨trivial, List.forall_mem_cons.mpr ⟨trivial, List.forall_mem_cons.mpr ⟨trivial, List.forall_mem_cons.mpr ⟨trivial, List.forall_mem_cons.mpr ⟨trivial, List.forall_mem_cons.mpr ⟨trivial, List.forall_mem_cons.mpr ⟨trivial, List.forall_mem_cons.mpr ⟨trivial, List.forall_mem_cons.mpr ⟨trivial, List.forall_mem_cons.mpr ⟨trivial, List.forall_mem_cons.mpr ⟨trivial, List.forall_mem_cons.mpr ⟨trivial, List.forall_mem_cons.mpr ⟨trivial, List.forall_mem_cons.mpr ⟨trivial, List.forall_mem_cons.mpr ⟨trivial, List.forall_mem_cons.mpr ⟨trivial, List.forall_mem_cons.mpr ⟨trivial, List.forall_mem_cons.mpr ⟨trivial, List.forall_mem_cons.mpr ⟨trivial, List.forall_mem_cons.mpr ⟨trivial, List.forall_mem_cons.mpr ⟨trivial, List.forall_mem_cons.mpr ⟨trivial, List.forall_mem_cons.mpr ⟨trivial, List.forall_mem_cons.mpr ⟨trivial, List.forall_mem_cons.mpr ⟨trivial, List.forall_mem_cons.mpr ⟨trivial, List.forall_mem_cons.mpr ⟨trivial, List.forall_mem_cons.mpr ⟨trivial, List.forall_mem_cons.mpr ⟨trivial, List.forall_mem_cons.mpr ⟨trivial, List.forall_mem_cons.mpr ⟨trivial, List.forall_mem_cons.mpr ⟨trivial, List.forall_mem_cons.mpr ⟨trivial, List.forall_mem_cons.mpr ⟨trivial, List.forall_mem_cons.mpr ⟨trivial, List.forall_mem_cons.mpr ⟨trivial, List.forall_mem_cons.mpr ⟨trivial, List.forall_mem_cons.mpr ⟨trivial, List.forall_mem_cons.mpr ⟨trivial, List.forall_mem_cons.mpr ⟨trivial, List.forall_mem_cons.mpr ⟨trivial, List.forall_mem_cons.mpr ⟨trivial, List.forall_mem_cons.mpr ⟨trivial, List.forall_mem_cons.mpr ⟨trivial, List.forall_mem_cons.mpr ⟨trivial, List.forall_mem_cons.mpr ⟨trivial, List.forall_mem_cons.mpr ⟨trivial, List.forall_mem_cons.mpr ⟨trivial, List.forall_mem_cons.mpr ⟨trivial, List.forall_mem_cons.mpr ⟨trivial, List.forall_mem_cons.mpr ⟨trivial, List.forall_mem_cons.mpr ⟨trivial, List.forall_mem_cons.mpr ⟨trivial, List.forall_mem_cons.mpr ⟨trivial, List.forall_mem_cons.mpr ⟨trivial, List.forall_mem_cons.mpr ⟨trivial, List.forall_mem_cons.mpr ⟨trivial, List.forall_mem_cons.mpr ⟨trivial, List.forall_mem_cons.mpr ⟨trivial, List.forall_mem_cons.mpr ⟨trivial, List.forall_mem_cons.mpr ⟨trivial, List.forall_mem_cons.mpr ⟨trivial, List.forall_mem_cons.mpr ⟨trivial, List.forall_mem_cons.mpr ⟨trivial, List.forall_mem_cons.mpr ⟨trivial, List.forall_mem_cons.mpr ⟨trivial, List.forall_mem_cons.mpr ⟨trivial, List.forall_mem_cons.mpr ⟨trivial, List.forall_mem_cons.mpr ⟨trivial, List.forall_mem_cons.mpr ⟨trivial, List.forall_mem_cons.mpr ⟨trivial, List.forall_mem_cons.mpr ⟨trivial, List.forall_mem_cons.mpr ⟨trivial, List.forall_mem_cons.mpr ⟨trivial, List.forall_mem_cons.mpr ⟨trivial, List.forall_mem_cons.mpr ⟨trivial, List.forall_mem_cons.mpr ⟨trivial, List.forall_mem_cons.mpr ⟨trivial, List.forall_mem_cons.mpr ⟨trivial, List.forall_mem_cons.mpr ⟨trivial, List.forall_mem_cons.mpr ⟨trivial, List.forall_mem_cons.mpr ⟨trivial, List.forall_mem_cons.mpr ⟨trivial, List.forall_mem_cons.mpr ⟨trivial, List.forall_mem_cons.mpr ⟨trivial, List.forall_mem_cons.mpr ⟨trivial, List.forall_mem_cons.mpr ⟨trivial, fun _ h => absurd h List.not_mem_nil⟩⟩⟩⟩⟩⟩⟩⟩⟩⟩⟩⟩⟩⟩⟩⟩⟩⟩⟩⟩⟩⟩⟩⟩⟩⟩⟩⟩⟩⟩⟩⟩⟩⟩⟩⟩⟩⟩⟩⟩⟩⟩⟩⟩⟩⟩⟩⟩⟩⟩⟩⟩⟩⟩⟩⟩⟩⟩⟩⟩⟩⟩⟩⟩⟩⟩⟩⟩⟩⟩⟩⟩⟩⟩⟩⟩⟩⟩⟩⟩⟩⟩⟩⟩⟩⟩⟩⟩⟩⟩⟩⟩⟩⟩⟩⟩⟩⟩⟩⟩⟩⟩⟩⟩⟩⟩⟩⟩⟩⟩⟩⟩⟩⟩⟩⟩⟩⟩⟩⟩⟩⟩⟩⟩⟩⟩⟩⟩⟩⟩⟩⟩⟩⟩⟩⟩⟩⟩⟩⟩⟩⟩⟩⟩⟩⟩⟩⟩⟩⟩⟩⟩⟩⟩⟩⟩⟩⟩⟩⟩⟩⟩⟩⟩⟩⟩⟩⟩⟩⟩⟩⟩⟩⟩⟩⟩⟩⟩⟩⟩⟩⟩⟩⟩⟩⟩⟩⟩⟩⟩⟩⟩⟩⟩⟩⟩⟩⟩⟩⟩⟩⟩⟩⟩⟩⟩⟩⟩⟩⟩⟩⟩⟩⟩⟩⟩⟩⟩⟩⟩⟩⟩⟩⟩⟩⟩⟩⟩⟩⟩⟩⟩⟩⟩⟩⟩⟩⟩⟩⟩⟩⟩⟩⟩⟩⟩⟩⟩⟩⟩⟩⟩
set_option maxRecDepth 100000 in
theorem zq_1 : ∀ e ∈ zm_c1, zm_okq 1 e.2 := List.forall_mem_cons.mpr ⟨trivial, List.forall_mem_cons.mpr ⟨trivial, List.forall_mem_cons.mpr ⟨trivial, List.forall_mem_cons.mpr ⟨⟨_, _, _, rfl, rfl, zm_f1.1, zm_f1.2.1, zw_35, zw_36, zw_2⟩, List.forall_mem_cons.mpr ⟨trivial, List.forall_mem_cons.mpr ⟨trivial, List.forall_mem_cons.mpr ⟨⟨⟨_, _, _, rfl, by decide, zm_f0.1, zm_f0.2.1, zm_f0.2.2, Or.inl ⟨_, zw_153, Or.inl rfl⟩⟩, zm_okw_f rfl rfl rfl zw_153⟩, List.forall_mem_cons.mpr ⟨trivial, List.forall_mem_cons.mpr ⟨⟨_, _, _, rfl, rfl, zm_f2.1, zm_f2.2.1, zw_69, zw_70, zw_3⟩, List.forall_mem_cons.mpr ⟨trivial, List.forall_mem_cons.mpr ⟨trivial, List.forall_mem_cons.mpr ⟨⟨⟨_, _, _, rfl, by decide, zm_f0.1, zm_f0.2.1, zm_f0.2.2, Or.inl ⟨_, zw_154, Or.inl rfl⟩⟩, zm_okw_f rfl rfl rfl zw_154⟩, List.forall_mem_cons.mpr ⟨trivial, List.forall_mem_cons.mpr ⟨trivial, List.forall_mem_cons.mpr ⟨⟨_, rfl, zw_152, zw_151⟩, List.forall_mem_cons.mpr ⟨⟨⟨_, _, _, rfl, by decide, zm_f0.1, zm_f0.2.1, zm_f0.2.2, Or.inl ⟨_, zw_155, Or.inl rfl⟩⟩, zm_okw_f rfl rfl rfl zw_155⟩, List.forall_mem_cons.mpr ⟨trivial, fun _ h => absurd h List.not_mem_nil⟩⟩⟩⟩⟩⟩⟩⟩⟩⟩⟩⟩⟩⟩⟩⟩⟩
set_option maxRecDepth 100000 in
theorem zq_2 : ∀ e ∈ zm_c2, zm_okq 2 e.2 := List.forall_mem_cons.mpr ⟨trivial, fun _ h => absurd h List.not_mem_nil⟩
set_option maxRecDepth 100000 in
theorem zq_3 : ∀ e ∈ zm_c3, zm_okq 3 e.2 := List.forall_mem_cons.mpr ⟨trivial, List.forall_mem_cons.mpr ⟨trivial, List.forall_mem_cons.mpr ⟨trivial, List.forall_mem_cons.mpr ⟨trivial, List.forall_mem_cons.mpr ⟨⟨⟨_, _, _, rfl, by decide, zm_f1.1, zm_f1.2.1, zm_f1.2.2, Or.inl ⟨_, zw_43, Or.inl rfl⟩⟩, zm_okw_n rfl rfl⟩, List.forall_mem_cons.mpr ⟨trivial, List.forall_mem_cons.mpr ⟨trivial, List.forall_mem_cons.mpr ⟨⟨_, rfl, rfl, zw_68⟩, List.forall_mem_cons.mpr ⟨⟨⟨_, _, _, rfl, by decide, zm_f1.1, zm_f1.2.1, zm_f1.2.2, Or.inl ⟨_, zw_45, Or.inl rfl⟩⟩, zm_okw_f rfl rfl rfl zw_45⟩, List.forall_mem_cons.mpr ⟨trivial, List.forall_mem_cons.mpr ⟨trivial, List.forall_mem_cons.mpr ⟨⟨_, rfl, rfl, zw_68⟩, List.forall_mem_cons.mpr ⟨⟨⟨_, _, _, rfl, by decide, zm_f1.1, zm_f1.2.1, zm_f1.2.2, Or.inl ⟨_, zw_46, Or.inl rfl⟩⟩, zm_okw_f rfl rfl rfl zw_46⟩, List.forall_mem_cons.mpr ⟨trivial, fun _ h => absurd h List.not_mem_nil⟩⟩⟩⟩⟩⟩⟩⟩⟩⟩⟩⟩⟩⟩
set_option maxRecDepth 100000 in
theorem zq_4 : ∀ e ∈ zm_c4, zm_okq 4 e.2 := List.forall_mem_cons.mpr ⟨trivial, List.forall_mem_cons.mpr ⟨trivial, List.forall_mem_cons.mpr ⟨trivial, List.forall_mem_cons.mpr ⟨⟨_, _, _, rfl, rfl, zm_f3.1, zm_f3.2.1, zw_75, zw_76, zw_4⟩, List.forall_mem_cons.mpr ⟨trivial, List.forall_mem_cons.mpr ⟨trivial, List.forall_mem_cons.mpr ⟨⟨⟨_, _, _, rfl, by decide, zm_f2.1, zm_f2.2.1, zm_f2.2.2, Or.inl ⟨_, zw_128, Or.inl rfl⟩⟩, zm_okw_f rfl rfl rfl zw_128⟩, List.forall_mem_cons.mpr ⟨trivial, List.forall_mem_cons.mpr ⟨⟨_, _, _, rfl, by decide, zm_f2.1, zm_f2.2.1, zm_f2.2.2, Or.inl ⟨_, zw_128, Or.inl rfl⟩⟩, List.forall_mem_cons.mpr ⟨trivial, List.forall_mem_cons.mpr ⟨⟨⟨_, _, _, rfl, by decide, zm_f3.1, zm_f3.2.1, zm_f3.2.2, Or.inl ⟨_, zw_81, Or.inl rfl⟩⟩, zm_okw_n rfl rfl⟩, List.forall_mem_cons.mpr ⟨trivial, List.forall_mem_cons.mpr ⟨⟨_, _, _, rfl, rfl, zm_f4.1, zm_f4.2.1, zw_102, zw_103, zw_7⟩, List.forall_mem_cons.mpr ⟨trivial, List.forall_mem_cons.mpr ⟨trivial, List.forall_mem_cons.mpr ⟨⟨⟨_, _, _, rfl, by decide, zm_f2.1, zm_f2.2.1, zm_f2.2.2, Or.inl ⟨_, zw_130, Or.inl rfl⟩⟩, zm_okw_f rfl rfl rfl zw_130⟩, List.forall_mem_cons.mpr ⟨trivial, List.forall_mem_cons.mpr ⟨⟨_, _, _, rfl, rfl, zm_f4.1, zm_f4.2.1, zw_102, zw_103, zw_7⟩, List.forall_mem_cons.mpr ⟨trivial, List.forall_mem_cons.mpr ⟨trivial, List.forall_mem_cons.mpr ⟨⟨⟨_, _, _, rfl, by decide, zm_f2.1, zm_f2.2.1, zm_f2.2.2, Or.inl ⟨_, zw_131, Or.inl rfl⟩⟩, zm_okw_f rfl rfl rfl zw_131⟩, List.forall_mem_cons.mpr ⟨trivial, List.forall_mem_cons.mpr ⟨⟨_, _, _, rfl, rfl, zm_f4.1, zm_f4.2.1, zw_102, zw_103, zw_7⟩, List.forall_mem_cons.mpr ⟨trivial, List.forall_mem_cons.mpr ⟨trivial, List.forall_mem_cons.mpr ⟨⟨⟨_, _, _, rfl, by decide, zm_f2.1, zm_f2.2.1, zm_f2.2.2, Or.inl ⟨_, zw_132, Or.inl rfl⟩⟩, zm_okw_f rfl rfl rfl zw_132⟩, List.forall_mem_cons.mpr ⟨trivial, fun _ h => absurd h List.not_mem_nil⟩⟩⟩⟩⟩⟩⟩⟩⟩⟩⟩⟩⟩⟩⟩⟩⟩⟩⟩⟩⟩⟩⟩⟩⟩⟩⟩
set_option maxRecDepth 100000 in
theorem zq_5 : ∀ e ∈ zm_c5, zm_okq 5 e.2 := List.forall_mem_cons.mpr ⟨trivial, List.forall_mem_cons.mpr ⟨trivial, List.forall_mem_cons.mpr ⟨trivial, fun _ h => absurd h List.not_mem_nil⟩⟩⟩
set_option maxRecDepth 100000 in
theorem zq_6 : ∀ e ∈ zm_c6, zm_okq 6 e.2 := List.forall_mem_cons.mpr ⟨trivial, List.forall_mem_cons.mpr ⟨trivial, List.forall_mem_cons.mpr ⟨trivial, List.forall_mem_cons.mpr ⟨⟨_, List.mem_cons_self, rfl, zw_114⟩, List.forall_mem_cons.mpr ⟨⟨⟨_, _, _, rfl, by decide, zm_f4.1, zm_f4.2.1, zm_f4.2.2, Or.inl ⟨_, zw_116, Or.inl rfl⟩⟩, zm_okw_n rfl rfl⟩, List.forall_mem_cons.mpr ⟨trivial, fun _ h => absurd h List.not_mem_nil⟩⟩⟩⟩⟩⟩
set_option maxRecDepth 100000 in
theorem zq_7 : ∀ e ∈ zm_c7, zm_okq 7 e.2 := List.forall_mem_cons.mpr ⟨trivial, List.forall_mem_cons.mpr ⟨trivial, List.forall_mem_cons.mpr ⟨trivial, List.forall_mem_cons.mpr ⟨trivial, List.forall_mem_cons.mpr ⟨⟨⟨_, _, _, rfl, by decide, zm_f4.1, zm_f4.2.1, zm_f4.2.2, Or.inl ⟨_, zw_118, Or.inl rfl⟩⟩, zm_okw_n rfl rfl⟩, List.forall_mem_cons.mpr ⟨trivial, fun _ h => absurd h List.not_mem_nil⟩⟩⟩⟩⟩⟩
set_option maxRecDepth 100000 in
theorem zq_8 : ∀ e ∈ zm_c8, zm_okq 8 e.2 := List.forall_mem_cons.mpr ⟨trivial, List.forall_mem_cons.mpr ⟨trivial, List.forall_mem_cons.mpr ⟨trivial, fun _ h => absurd h List.not_mem_nil⟩⟩⟩
set_option maxRecDepth 100000 in
theorem zq_9 : ∀ e ∈ zm_c9, zm_okq 9 e.2 := List.forall_mem_cons.mpr ⟨trivial, List.forall_mem_cons.mpr ⟨trivial, List.forall_mem_cons.mpr ⟨trivial, List.forall_mem_cons.mpr ⟨⟨_, _, _, rfl, by decide, zm_f0.1, zm_f0.2.1, zm_f0.2.2, Or.inl ⟨_, zw_153, Or.inl rfl⟩⟩, List.forall_mem_cons.mpr ⟨⟨_, _, _, rfl, by decide, zm_f1.1, zm_f1.2.1, zm_f1.2.2, Or.inl ⟨_, zw_44, Or.inl rfl⟩⟩, List.forall_mem_cons.mpr ⟨trivial, List.forall_mem_cons.mpr ⟨trivial, List.forall_mem_cons.mpr ⟨⟨_, _, _, rfl, by decide, zm_f0.1, zm_f0.2.1, zm_f0.2.2, Or.inl ⟨_, zw_153, Or.inl rfl⟩⟩, List.forall_mem_cons.mpr ⟨⟨_, _, _, rfl, by decide, zm_f1.1, zm_f1.2.1, zm_f1.2.2, Or.inl ⟨_, zw_42, Or.inl rfl⟩⟩, List.forall_mem_cons.mpr ⟨trivial, List.forall_mem_cons.mpr ⟨trivial, List.forall_mem_cons.mpr ⟨trivial, List.forall_mem_cons.mpr ⟨trivial, List.forall_mem_cons.mpr ⟨trivial, List.forall_mem_cons.mpr ⟨⟨_, _, _, rfl, by decide, zm_f0.1, zm_f0.2.1, zm_f0.2.2, Or.inl ⟨_, zw_157, Or.inl rfl⟩⟩, List.forall_mem_cons.mpr ⟨trivial, List.forall_mem_cons.mpr ⟨trivial, List.forall_mem_cons.mpr ⟨⟨_, _, _, rfl, by decide, zm_f0.1, zm_f0.2.1, zm_f0.2.2, Or.inl ⟨_, zw_158, Or.inl rfl⟩⟩, List.forall_mem_cons.mpr ⟨trivial, List.forall_mem_cons.mpr ⟨trivial, List.forall_mem_cons.mpr ⟨⟨_, _, _, rfl, by decide, zm_f0.1, zm_f0.2.1, zm_f0.2.2, Or.inl ⟨_, zw_159, Or.inl rfl⟩⟩, List.forall_mem_cons.mpr ⟨trivial, List.forall_mem_cons.mpr ⟨trivial, List.forall_mem_cons.mpr ⟨⟨_, _, _, rfl, by decide, zm_f0.1, zm_f0.2.1, zm_f0.2.2, Or.inl ⟨_, zw_160, Or.inl rfl⟩⟩, List.forall_mem_cons.mpr ⟨trivial, List.forall_mem_cons.mpr ⟨trivial, List.forall_mem_cons.mpr ⟨⟨_, _, _, rfl, by decide, zm_f0.1, zm_f0.2.1, zm_f0.2.2, Or.inl ⟨_, zw_161, Or.inl rfl⟩⟩, List.forall_mem_cons.mpr ⟨trivial, List.forall_mem_cons.mpr ⟨trivial, List.forall_mem_cons.mpr ⟨trivial, fun _ h => absurd h List.not_mem_nil⟩⟩⟩⟩⟩⟩⟩⟩⟩⟩⟩⟩⟩⟩⟩⟩⟩⟩⟩⟩⟩⟩⟩⟩⟩⟩⟩⟩⟩⟩
set_option maxRecDepth 100000 in
theorem zq_10 : ∀ e ∈ zm_c10, zm_okq 10 e.2 := List.forall_mem_cons.mpr ⟨trivial, List.forall_mem_cons.mpr ⟨trivial, List.forall_mem_cons.mpr ⟨trivial, List.forall_mem_cons.mpr ⟨⟨_, _, _, rfl, by decide, zm_f0.1, zm_f0.2.1, zm_f0.2.2, Or.inl ⟨_, zw_155, Or.inl rfl⟩⟩, List.forall_mem_cons.mpr ⟨trivial, List.forall_mem_cons.mpr ⟨trivial, List.forall_mem_cons.mpr ⟨trivial, List.forall_mem_cons.mpr ⟨trivial, List.forall_mem_cons.mpr ⟨trivial, List.forall_mem_cons.mpr ⟨trivial, List.forall_mem_cons.mpr ⟨trivial, List.forall_mem_cons.mpr ⟨trivial, List.forall_mem_cons.mpr ⟨trivial, List.forall_mem_cons.mpr ⟨trivial, List.forall_mem_cons.mpr ⟨trivial, List.forall_mem_cons.mpr ⟨trivial, List.forall_mem_cons.mpr ⟨trivial, List.forall_mem_cons.mpr ⟨trivial, List.forall_mem_cons.mpr ⟨trivial, List.forall_mem_cons.mpr ⟨trivial, List.forall_mem_cons.mpr ⟨trivial, List.forall_mem_cons.mpr ⟨trivial, List.forall_mem_cons.mpr ⟨trivial, List.forall_mem_cons.mpr ⟨trivial, fun _ h => absurd h List.not_mem_nil⟩⟩⟩⟩⟩⟩⟩⟩⟩⟩⟩⟩⟩⟩⟩⟩⟩⟩⟩⟩⟩⟩⟩⟩
set_option maxRecDepth 100000 in
theorem zq_11 : ∀ e ∈ zm_c11, zm_okq 11 e.2 := List.forall_mem_cons.mpr ⟨trivial, List.forall_mem_cons.mpr ⟨trivial, List.forall_mem_cons.mpr ⟨trivial, List.forall_mem_cons.mpr ⟨trivial, List.forall_mem_cons.mpr ⟨trivial, List.forall_mem_cons.mpr ⟨trivial, List.forall_mem_cons.mpr ⟨trivial, List.forall_mem_cons.mpr ⟨trivial, List.forall_mem_cons.mpr ⟨trivial, List.forall_mem_cons.mpr ⟨trivial, List.forall_mem_cons.mpr ⟨trivial, List.forall_mem_cons.mpr ⟨trivial, List.forall_mem_cons.mpr ⟨trivial, List.forall_mem_cons.mpr ⟨trivial, List.forall_mem_cons.mpr ⟨trivial, List.forall_mem_cons.mpr ⟨trivial, fun _ h => absurd h List.not_mem_nil⟩⟩⟩⟩⟩⟩⟩⟩⟩⟩⟩⟩⟩⟩⟩⟩
set_option maxRecDepth 100000 in
theorem zq_12 : ∀ e ∈ zm_c12, zm_okq 12 e.2 := List.forall_mem_cons.mpr ⟨trivial, List.forall_mem_cons.mpr ⟨⟨_, _, _, rfl, by decide, zm_f0.1, zm_f0.2.1, zm_f0.2.2, Or.inl ⟨_, zw_153, Or.inl rfl⟩⟩, List.forall_mem_cons.mpr ⟨trivial, List.forall_mem_cons.mpr ⟨trivial, List.forall_mem_cons.mpr ⟨trivial, fun _ h => absurd h List.not_mem_nil⟩⟩⟩⟩⟩
set_option maxRecDepth 100000 in
theorem zq_13 : ∀ e ∈ zm_c13, zm_okq 13 e.2 := List.forall_mem_cons.mpr ⟨trivial, List.forall_mem_cons.mpr ⟨trivial, List.forall_mem_cons.mpr ⟨trivial, List.forall_mem_cons.mpr ⟨trivial, List.forall_mem_cons.mpr ⟨trivial, List.forall_mem_cons.mpr ⟨trivial, List.forall_mem_cons.mpr ⟨trivial, List.forall_mem_cons.mpr ⟨trivial, List.forall_mem_cons.mpr ⟨trivial, List.forall_mem_cons.mpr ⟨trivial, List.forall_mem_cons.mpr ⟨trivial, List.forall_mem_cons.mpr ⟨trivial, List.forall_mem_cons.mpr ⟨trivial, List.forall_mem_cons.mpr ⟨trivial, List.forall_mem_cons.mpr ⟨trivial, List.forall_mem_cons.mpr ⟨trivial, List.forall_mem_cons.mpr ⟨trivial, List.forall_mem_cons.mpr ⟨trivial, List.forall_mem_cons.mpr ⟨trivial, List.forall_mem_cons.mpr ⟨trivial, List.forall_mem_cons.mpr ⟨trivial, List.forall_mem_cons.mpr ⟨trivial, List.forall_mem_cons.mpr ⟨trivial, List.forall_mem_cons.mpr ⟨trivial, List.forall_mem_cons.mpr ⟨trivial, List.forall_mem_cons.mpr ⟨trivial, List.forall_mem_cons.mpr ⟨trivial, List.forall_mem_cons.mpr ⟨trivial, List.forall_mem_cons.mpr ⟨trivial, List.forall_mem_cons.mpr ⟨⟨_, _, _, rfl, by decide, zm_f1.1, zm_f1.2.1, zm_f1.2.2, Or.inl ⟨_, zw_41, Or.inl rfl⟩⟩, List.forall_mem_cons.mpr ⟨trivial, List.forall_mem_cons.mpr ⟨trivial, List.forall_mem_cons.mpr ⟨trivial, List.forall_mem_cons.mpr ⟨trivial, List.forall_mem_cons.mpr ⟨trivial, List.forall_mem_cons.mpr ⟨trivial, List.forall_mem_cons.mpr ⟨trivial, List.forall_mem_cons.mpr ⟨trivial, List.forall_mem_cons.mpr ⟨trivial, List.forall_mem_cons.mpr ⟨trivial, List.forall_mem_cons.mpr ⟨trivial, List.forall_mem_cons.mpr ⟨trivial, List.forall_mem_cons.mpr ⟨trivial, List.forall_mem_cons.mpr ⟨trivial, List.forall_mem_cons.mpr ⟨trivial, List.forall_mem_cons.mpr ⟨⟨_, _, _, rfl, by decide, zm_f1.1, zm_f1.2.1, zm_f1.2.2, Or.inl ⟨_, zw_45, Or.inl rfl⟩⟩, List.forall_mem_cons.mpr ⟨trivial, List.forall_mem_cons.mpr ⟨⟨_, _, _, rfl, by decide, zm_f1.1, zm_f1.2.1, zm_f1.2.2, Or.inl ⟨_, zw_41, Or.inl rfl⟩⟩, List.forall_mem_cons.mpr ⟨trivial, List.forall_mem_cons.mpr ⟨trivial, List.forall_mem_cons.mpr ⟨trivial, List.forall_mem_cons.mpr ⟨trivial, List.forall_mem_cons.mpr ⟨trivial, List.forall_mem_cons.mpr ⟨⟨_, _, _, rfl, by decide, zm_f1.1, zm_f1.2.1, zm_f1.2.2, Or.inl ⟨_, zw_41, Or.inl rfl⟩⟩, List.forall_mem_cons.mpr ⟨trivial, List.forall_mem_cons.mpr ⟨trivial, List.forall_mem_cons.mpr ⟨⟨⟨_, _, _, rfl, by decide, zm_f1.1, zm_f1.2.1, zm_f1.2.2, Or.inl ⟨_, zw_41, Or.inl rfl⟩⟩, zm_okw_n rfl rfl⟩, List.forall_mem_cons.mpr ⟨trivial, List.forall_mem_cons.mpr ⟨trivial, List.forall_mem_cons.mpr ⟨trivial, List.forall_mem_cons.mpr ⟨⟨_, _, _, rfl, by decide, zm_f1.1, zm_f1.2.1, zm_f1.2.2, Or.inl ⟨_, zw_41, Or.inl rfl⟩⟩, List.forall_mem_cons.mpr ⟨trivial, fun _ h => absurd h List.not_mem_nil⟩⟩⟩⟩⟩⟩⟩⟩⟩⟩⟩⟩⟩⟩⟩⟩⟩⟩⟩⟩⟩⟩⟩⟩⟩⟩⟩⟩⟩⟩⟩⟩⟩⟩⟩⟩⟩⟩⟩⟩⟩⟩⟩⟩⟩⟩⟩⟩⟩⟩⟩⟩⟩⟩⟩⟩⟩⟩⟩⟩⟩⟩
set_option maxRecDepth 100000 in
theorem zq_14 : ∀ e ∈ zm_c14, zm_okq 14 e.2 := List.forall_mem_cons.mpr ⟨trivial, List.forall_mem_cons.mpr ⟨trivial, List.forall_mem_cons.mpr ⟨trivial, List.forall_mem_cons.mpr ⟨trivial, List.forall_mem_cons.mpr ⟨trivial, List.forall_mem_cons.mpr ⟨trivial, List.forall_mem_cons.mpr ⟨trivial, fun _ h => absurd h List.not_mem_nil⟩⟩⟩⟩⟩⟩⟩
set_option maxRecDepth 100000 in
theorem zq_15 : ∀ e ∈ zm_c15, zm_okq 15 e.2 := List.forall_mem_cons.mpr ⟨trivial, List.forall_mem_cons.mpr ⟨trivial, List.forall_mem_cons.mpr ⟨trivial, List.forall_mem_cons.mpr ⟨trivial, List.forall_mem_cons.mpr ⟨trivial, List.forall_mem_cons.mpr ⟨trivial, List.forall_mem_cons.mpr ⟨trivial, List.forall_mem_cons.mpr ⟨trivial, List.forall_mem_cons.mpr ⟨trivial, List.forall_mem_cons.mpr ⟨trivial, List.forall_mem_cons.mpr ⟨trivial, List.forall_mem_cons.mpr ⟨trivial, fun _ h => absurd h List.not_mem_nil⟩⟩⟩⟩⟩⟩⟩⟩⟩⟩⟩⟩
set_option maxRecDepth 100000 in
theorem zq_16 : ∀ e ∈ zm_c16, zm_okq 16 e.2 := List.forall_mem_cons.mpr ⟨trivial, List.forall_mem_cons.mpr ⟨⟨_, _, _, rfl, by decide, zm_f0.1, zm_f0.2.1, zm_f0.2.2, Or.inl ⟨_, zw_153, Or.inl rfl⟩⟩, List.forall_mem_cons.mpr ⟨trivial, List.forall_mem_cons.mpr ⟨trivial, List.forall_mem_cons.mpr ⟨trivial, List.forall_mem_cons.mpr ⟨⟨_, _, _, rfl, by decide, zm_f0.1, zm_f0.2.1, zm_f0.2.2, Or.inl ⟨_, zw_155, Or.inl rfl⟩⟩, List.forall_mem_cons.mpr ⟨trivial, List.forall_mem_cons.mpr ⟨⟨_, _, _, rfl, by decide, zm_f6.1, zm_f6.2.1, zm_f6.2.2, Or.inl ⟨_, zw_386, Or.inl rfl⟩⟩, List.forall_mem_cons.mpr ⟨trivial, List.forall_mem_cons.mpr ⟨trivial, List.forall_mem_cons.mpr ⟨trivial, List.forall_mem_cons.mpr ⟨⟨_, _, _, rfl, by decide, zm_f6.1, zm_f6.2.1, zm_f6.2.2, Or.inl ⟨_, zw_388, Or.inl rfl⟩⟩, List.forall_mem_cons.mpr ⟨trivial, fun _ h => absurd h List.not_mem_nil⟩⟩⟩⟩⟩⟩⟩⟩⟩⟩⟩⟩⟩
set_option maxRecDepth 100000 in
theorem zq_17 : ∀ e ∈ zm_c17, zm_okq 17 e.2 := List.forall_mem_cons.mpr ⟨trivial, List.forall_mem_cons.mpr ⟨trivial, List.forall_mem_cons.mpr ⟨trivial, List.forall_mem_cons.mpr ⟨trivial, List.forall_mem_cons.mpr ⟨⟨_, _, _, rfl, by decide, zm_f1.1, zm_f1.2.1, zm_f1.2.2, Or.inl ⟨_, zw_49, Or.inl rfl⟩⟩, List.forall_mem_cons.mpr ⟨trivial, List.forall_mem_cons.mpr ⟨⟨_, _, _, rfl, by decide, zm_f1.1, zm_f1.2.1, zm_f1.2.2, Or.inl ⟨_, zw_48, Or.inl rfl⟩⟩, List.forall_mem_cons.mpr ⟨trivial, List.forall_mem_cons.mpr ⟨trivial, List.forall_mem_cons.mpr ⟨⟨_, _, _, rfl, by decide, zm_f1.1, zm_f1.2.1, zm_f1.2.2, Or.inl ⟨_, zw_45, Or.inl rfl⟩⟩, List.forall_mem_cons.mpr ⟨trivial, List.forall_mem_cons.mpr ⟨⟨_, _, _, rfl, by decide, zm_f1.1, zm_f1.2.1, zm_f1.2.2, Or.inl ⟨_, zw_49, Or.inl rfl⟩⟩, List.forall_mem_cons.mpr ⟨trivial, List.forall_mem_cons.mpr ⟨trivial, List.forall_mem_cons.mpr ⟨trivial, List.forall_mem_cons.mpr ⟨trivial, List.forall_mem_cons.mpr ⟨trivial, List.forall_mem_cons.mpr ⟨trivial, List.forall_mem_cons.mpr ⟨trivial, List.forall_mem_cons.mpr ⟨trivial, List.forall_mem_cons.mpr ⟨⟨_, _, _, rfl, by decide, zm_f1.1, zm_f1.2.1, zm_f1.2.2, Or.inl ⟨_, zw_45, Or.inl rfl⟩⟩, List.forall_mem_cons.mpr ⟨trivial, List.forall_mem_cons.mpr ⟨⟨_, _, _, rfl, by decide, zm_f1.1, zm_f1.2.1, zm_f1.2.2, Or.inl ⟨_, zw_49, Or.inl rfl⟩⟩, List.forall_mem_cons.mpr ⟨trivial, List.forall_mem_cons.mpr ⟨trivial, List.forall_mem_cons.mpr ⟨trivial, List.forall_mem_cons.mpr ⟨trivial, List.forall_mem_cons.mpr ⟨trivial, List.forall_mem_cons.mpr ⟨trivial, List.forall_mem_cons.mpr ⟨⟨_, _, _, rfl, by decide, zm_f1.1, zm_f1.2.1, zm_f1.2.2, Or.inl ⟨_, zw_49, Or.inl rfl⟩⟩, List.forall_mem_cons.mpr ⟨trivial, List.forall_mem_cons.mpr ⟨trivial, List.forall_mem_cons.mpr ⟨⟨⟨_, _, _, rfl, by decide, zm_f1.1, zm_f1.2.1, zm_f1.2.2, Or.inl ⟨_, zw_49, Or.inl rfl⟩⟩, zm_okw_n rfl rfl⟩, List.forall_mem_cons.mpr ⟨trivial, List.forall_mem_cons.mpr ⟨trivial, List.forall_mem_cons.mpr ⟨trivial, List.forall_mem_cons.mpr ⟨trivial, List.forall_mem_cons.mpr ⟨⟨_, _, _, rfl, by decide, zm_f1.1, zm_f1.2.1, zm_f1.2.2, Or.inl ⟨_, zw_49, Or.inl rfl⟩⟩, List.forall_mem_cons.mpr ⟨trivial, List.forall_mem_cons.mpr ⟨⟨_, _, _, rfl, by decide, zm_f1.1, zm_f1.2.1, zm_f1.2.2, Or.inl ⟨_, zw_48, Or.inl rfl⟩⟩, List.forall_mem_cons.mpr ⟨trivial, List.forall_mem_cons.mpr ⟨trivial, List.forall_mem_cons.mpr ⟨⟨_, _, _, rfl, by decide, zm_f1.1, zm_f1.2.1, zm_f1.2.2, Or.inl ⟨_, zw_45, Or.inl rfl⟩⟩, List.forall_mem_cons.mpr ⟨trivial, List.forall_mem_cons.mpr ⟨⟨_, _, _, rfl, by decide, zm_f1.1, zm_f1.2.1, zm_f1.2.2, Or.inl ⟨_, zw_49, Or.inl rfl⟩⟩, List.forall_mem_cons.mpr ⟨trivial, List.forall_mem_cons.mpr ⟨trivial, List.forall_mem_cons.mpr ⟨trivial, List.forall_mem_cons.mpr ⟨trivial, List.forall_mem_cons.mpr ⟨trivial, List.forall_mem_cons.mpr ⟨trivial, List.forall_mem_cons.mpr ⟨trivial, List.forall_mem_cons.mpr ⟨trivial, List.forall_mem_cons.mpr ⟨trivial, List.forall_mem_cons.mpr ⟨⟨_, _, _, rfl, by decide, zm_f1.1, zm_f1.2.1, zm_f1.2.2, Or.inl ⟨_, zw_49, Or.inl rfl⟩⟩, List.forall_mem_cons.mpr ⟨trivial, List.forall_mem_cons.mpr ⟨trivial, List.forall_mem_cons.mpr ⟨⟨⟨_, _, _, rfl, by decide, zm_f1.1, zm_f1.2.1, zm_f1.2.2, Or.inl ⟨_, zw_49, Or.inl rfl⟩⟩, zm_okw_n rfl rfl⟩, List.forall_mem_cons.mpr ⟨⟨_, _, _, rfl, rfl, zm_f6.1, zm_f6.2.1, zw_326, zw_327, zw_14⟩, List.forall_mem_cons.mpr ⟨trivial, List.forall_mem_cons.mpr ⟨trivial, List.forall_mem_cons.mpr ⟨trivial, List.forall_mem_cons.mpr ⟨⟨_, _, _, rfl, by decide, zm_f1.1, zm_f1.2.1, zm_f1.2.2, Or.inl ⟨_, zw_47, Or.inl rfl⟩⟩, List.forall_mem_cons.mpr ⟨trivial, List.forall_mem_cons.mpr ⟨trivial, List.forall_mem_cons.mpr ⟨trivial, List.forall_mem_cons.mpr ⟨trivial, fun _ h => absurd h List.not_mem_nil⟩⟩⟩⟩⟩⟩⟩⟩⟩⟩⟩⟩⟩⟩⟩⟩⟩⟩⟩⟩⟩⟩⟩⟩⟩⟩⟩⟩⟩⟩⟩⟩⟩⟩⟩⟩⟩⟩⟩⟩⟩⟩⟩⟩⟩⟩⟩⟩⟩⟩⟩⟩⟩⟩⟩⟩⟩⟩⟩⟩⟩⟩⟩⟩⟩⟩⟩
set_option maxRecDepth 100000 in
theorem zq_18 : ∀ e ∈ zm_c18, zm_okq 18 e.2 := List.forall_mem_cons.mpr ⟨trivial, List.forall_mem_cons.mpr ⟨trivial, List.forall_mem_cons.mpr ⟨⟨_, _, _, rfl, by decide, zm_f1.1, zm_f1.2.1, zm_f1.2.2, Or.inl ⟨_, zw_41, Or.inl rfl⟩⟩, List.forall_mem_cons.mpr ⟨⟨⟨_, _, _, rfl, by decide, zm_f1.1, zm_f1.2.1, zm_f1.2.2, Or.inl ⟨_, zw_48, Or.inl rfl⟩⟩, zm_okw_n rfl rfl⟩, List.forall_mem_cons.mpr ⟨trivial, List.forall_mem_cons.mpr ⟨trivial, List.forall_mem_cons.mpr ⟨⟨⟨_, _, _, rfl, by decide, zm_f1.1, zm_f1.2.1, zm_f1.2.2, Or.inl ⟨_, zw_41, Or.inl rfl⟩⟩, zm_okw_n rfl rfl⟩, List.forall_mem_cons.mpr ⟨trivial, List.forall_mem_cons.mpr ⟨trivial, List.forall_mem_cons.mpr ⟨⟨⟨_, _, _, rfl, by decide, zm_f1.1, zm_f1.2.1, zm_f1.2.2, Or.inl ⟨_, zw_49, Or.inl rfl⟩⟩, zm_okw_n rfl rfl⟩, List.forall_mem_cons.mpr ⟨trivial, List.forall_mem_cons.mpr ⟨trivial, List.forall_mem_cons.mpr ⟨⟨⟨_, _, _, rfl, by decide, zm_f1.1, zm_f1.2.1, zm_f1.2.2, Or.inl ⟨_, zw_47, Or.inl rfl⟩⟩, zm_okw_n rfl rfl⟩, List.forall_mem_cons.mpr ⟨trivial, fun _ h => absurd h List.not_mem_nil⟩⟩⟩⟩⟩⟩⟩⟩⟩⟩⟩⟩⟩⟩
set_option maxRecDepth 100000 in
theorem zq_19 : ∀ e ∈ zm_c19, zm_okq 19 e.2 := List.forall_mem_cons.mpr ⟨trivial, List.forall_mem_cons.mpr ⟨trivial, List.forall_mem_cons.mpr ⟨trivial, List.forall_mem_cons.mpr ⟨trivial, List.forall_mem_cons.mpr ⟨trivial, List.forall_mem_cons.mpr ⟨trivial, List.forall_mem_cons.mpr ⟨trivial, List.forall_mem_cons.mpr ⟨trivial, List.forall_mem_cons.mpr ⟨trivial, List.forall_mem_cons.mpr ⟨trivial, fun _ h => absurd h List.not_mem_nil⟩⟩⟩⟩⟩⟩⟩⟩⟩⟩
set_option maxRecDepth 100000 in
theorem zq_20 : ∀ e ∈ zm_c20, zm_okq 20 e.2 := List.forall_mem_cons.mpr ⟨trivial, List.forall_mem_cons.mpr ⟨trivial, List.forall_mem_cons.mpr ⟨trivial, List.forall_mem_cons.mpr ⟨trivial, List.forall_mem_cons.mpr ⟨⟨_, _, _, rfl, by decide, zm_f1.1, zm_f1.2.1, zm_f1.2.2, Or.inl ⟨_, zw_49, Or.inl rfl⟩⟩, List.forall_mem_cons.mpr ⟨⟨⟨_, _, _, rfl, by decide, zm_f1.1, zm_f1.2.1, zm_f1.2.2, Or.inl ⟨_, zw_43, Or.inl rfl⟩⟩, zm_okw_n rfl rfl⟩, List.forall_mem_cons.mpr ⟨trivial, fun _ h => absurd h List.not_mem_nil⟩⟩⟩⟩⟩⟩⟩
set_option maxRecDepth 100000 in
theorem zq_21 : ∀ e ∈ zm_c21, zm_okq 21 e.2 := List.forall_mem_cons.mpr ⟨trivial, List.forall_mem_cons.mpr ⟨⟨_, _, _, rfl, by decide, zm_f1.1, zm_f1.2.1, zm_f1.2.2, Or.inl ⟨_, zw_47, Or.inl rfl⟩⟩, List.forall_mem_cons.mpr ⟨trivial, List.forall_mem_cons.mpr ⟨trivial, List.forall_mem_cons.mpr ⟨trivial, List.forall_mem_cons.mpr ⟨⟨_, _, _, rfl, by decide, zm_f1.1, zm_f1.2.1, zm_f1.2.2, Or.inl ⟨_, zw_49, Or.inl rfl⟩⟩, List.forall_mem_cons.mpr ⟨trivial, List.forall_mem_cons.mpr ⟨⟨_, _, _, rfl, by decide, zm_f1.1, zm_f1.2.1, zm_f1.2.2, Or.inl ⟨_, zw_48, Or.inl rfl⟩⟩, List.forall_mem_cons.mpr ⟨trivial, List.forall_mem_cons.mpr ⟨trivial, List.forall_mem_cons.mpr ⟨trivial, List.forall_mem_cons.mpr ⟨⟨_, _, _, rfl, by decide, zm_f1.1, zm_f1.2.1, zm_f1.2.2, Or.inl ⟨_, zw_45, Or.inl rfl⟩⟩, List.forall_mem_cons.mpr ⟨trivial, List.forall_mem_cons.mpr ⟨⟨_, _, _, rfl, by decide, zm_f1.1, zm_f1.2.1, zm_f1.2.2, Or.inl ⟨_, zw_49, Or.inl rfl⟩⟩, List.forall_mem_cons.mpr ⟨trivial, List.forall_mem_cons.mpr ⟨trivial, List.forall_mem_cons.mpr ⟨trivial, List.forall_mem_cons.mpr ⟨trivial, List.forall_mem_cons.mpr ⟨⟨_, _, _, rfl, by decide, zm_f1.1, zm_f1.2.1, zm_f1.2.2, Or.inl ⟨_, zw_46, Or.inl rfl⟩⟩, List.forall_mem_cons.mpr ⟨trivial, List.forall_mem_cons.mpr ⟨⟨_, _, _, rfl, by decide, zm_f1.1, zm_f1.2.1, zm_f1.2.2, Or.inl ⟨_, zw_47, Or.inl rfl⟩⟩, List.forall_mem_cons.mpr ⟨trivial, List.forall_mem_cons.mpr ⟨⟨_, _, _, rfl, by decide, zm_f1.1, zm_f1.2.1, zm_f1.2.2, Or.inl ⟨_, zw_45, Or.inl rfl⟩⟩, List.forall_mem_cons.mpr ⟨trivial, List.forall_mem_cons.mpr ⟨⟨_, _, _, rfl, by decide, zm_f1.1, zm_f1.2.1, zm_f1.2.2, Or.inl ⟨_, zw_49, Or.inl rfl⟩⟩, List.forall_mem_cons.mpr ⟨trivial, List.forall_mem_cons.mpr ⟨trivial, List.forall_mem_cons.mpr ⟨trivial, List.forall_mem_cons.mpr ⟨trivial, List.forall_mem_cons.mpr ⟨⟨_, _, _, rfl, by decide, zm_f1.1, zm_f1.2.1, zm_f1.2.2, Or.inl ⟨_, zw_47, Or.inl rfl⟩⟩, List.forall_mem_cons.mpr ⟨trivial, List.forall_mem_cons.mpr ⟨trivial, List.forall_mem_cons.mpr ⟨⟨⟨_, _, _, rfl, by decide, zm_f1.1, zm_f1.2.1, zm_f1.2.2, Or.inl ⟨_, zw_47, Or.inl rfl⟩⟩, zm_okw_n rfl rfl⟩, List.forall_mem_cons.mpr ⟨trivial, List.forall_mem_cons.mpr ⟨trivial, List.forall_mem_cons.mpr ⟨⟨_, _, _, rfl, by decide, zm_f1.1, zm_f1.2.1, zm_f1.2.2, Or.inl ⟨_, zw_49, Or.inl rfl⟩⟩, List.forall_mem_cons.mpr ⟨trivial, List.forall_mem_cons.mpr ⟨trivial, List.forall_mem_cons.mpr ⟨⟨⟨_, _, _, rfl, by decide, zm_f1.1, zm_f1.2.1, zm_f1.2.2, Or.inl ⟨_, zw_49, Or.inl rfl⟩⟩, zm_okw_n rfl rfl⟩, List.forall_mem_cons.mpr ⟨trivial, List.forall_mem_cons.mpr ⟨trivial, fun _ h => absurd h List.not_mem_nil⟩⟩⟩⟩⟩⟩⟩⟩⟩⟩⟩⟩⟩⟩⟩⟩⟩⟩⟩⟩⟩⟩⟩⟩⟩⟩⟩⟩⟩⟩⟩⟩⟩⟩⟩⟩⟩⟩⟩⟩⟩
set_option maxRecDepth 100000 in
theorem zq_22 : ∀ e ∈ zm_c22, zm_okq 22 e.2 := List.forall_mem_cons.mpr ⟨trivial, List.forall_mem_cons.mpr ⟨trivial, List.forall_mem_cons.mpr ⟨trivial, List.forall_mem_cons.mpr ⟨trivial, List.forall_mem_cons.mpr ⟨trivial, List.forall_mem_cons.mpr ⟨trivial, List.forall_mem_cons.mpr ⟨trivial, List.forall_mem_cons.mpr ⟨trivial, List.forall_mem_cons.mpr ⟨trivial, List.forall_mem_cons.mpr ⟨trivial, List.forall_mem_cons.mpr ⟨trivial, List.forall_mem_cons.mpr ⟨trivial, List.forall_mem_cons.mpr ⟨trivial, List.forall_mem_cons.mpr ⟨trivial, fun _ h => absurd h List.not_mem_nil⟩⟩⟩⟩⟩⟩⟩⟩⟩⟩⟩⟩⟩⟩
set_option maxRecDepth 100000 in
theorem zq_23 : ∀ e ∈ zm_c23, zm_okq 23 e.2 := List.forall_mem_cons.mpr ⟨trivial, List.forall_mem_cons.mpr ⟨trivial, List.forall_mem_cons.mpr ⟨trivial, List.forall_mem_cons.mpr ⟨trivial, List.forall_mem_cons.mpr ⟨⟨_, _, _, rfl, by decide, zm_f1.1, zm_f1.2.1, zm_f1.2.2, Or.inl ⟨_, zw_47, Or.inl rfl⟩⟩, List.forall_mem_cons.mpr ⟨trivial, List.forall_mem_cons.mpr ⟨trivial, List.forall_mem_cons.mpr ⟨⟨_, _, _, rfl, by decide, zm_f1.1, zm_f1.2.1, zm_f1.2.2, Or.inl ⟨_, zw_46, Or.inl rfl⟩⟩, List.forall_mem_cons.mpr ⟨trivial, List.forall_mem_cons.mpr ⟨trivial, List.forall_mem_cons.mpr ⟨trivial, List.forall_mem_cons.mpr ⟨trivial, List.forall_mem_cons.mpr ⟨trivial, List.forall_mem_cons.mpr ⟨trivial, List.forall_mem_cons.mpr ⟨trivial, List.forall_mem_cons.mpr ⟨trivial, List.forall_mem_cons.mpr ⟨trivial, List.forall_mem_cons.mpr ⟨trivial, fun _ h => absurd h List.not_mem_nil⟩⟩⟩⟩⟩⟩⟩⟩⟩⟩⟩⟩⟩⟩⟩⟩⟩⟩
set_option maxRecDepth 100000 in
theorem zq_24 : ∀ e ∈ zm_c24, zm_okq 24 e.2 := List.forall_mem_cons.mpr ⟨trivial, List.forall_mem_cons.mpr ⟨trivial, List.forall_mem_cons.mpr ⟨⟨⟨_, _, _, rfl, by decide, zm_f1.1, zm_f1.2.1, zm_f1.2.2, Or.inl ⟨_, zw_50, Or.inl rfl⟩⟩, zm_okw_n rfl rfl⟩, List.forall_mem_cons.mpr ⟨trivial, List.forall_mem_cons.mpr ⟨trivial, List.forall_mem_cons.mpr ⟨trivial, List.forall_mem_cons.mpr ⟨trivial, List.forall_mem_cons.mpr ⟨trivial, List.forall_mem_cons.mpr ⟨trivial, List.forall_mem_cons.mpr ⟨⟨_, _, _, rfl, by decide, zm_f1.1, zm_f1.2.1, zm_f1.2.2, Or.inl ⟨_, zw_49, Or.inl rfl⟩⟩, List.forall_mem_cons.mpr ⟨trivial, List.forall_mem_cons.mpr ⟨⟨_, _, _, rfl, by decide, zm_f1.1, zm_f1.2.1, zm_f1.2.2, Or.inl ⟨_, zw_48, Or.inl rfl⟩⟩, List.forall_mem_cons.mpr ⟨trivial, List.forall_mem_cons.mpr ⟨trivial, List.forall_mem_cons.mpr ⟨trivial, List.forall_mem_cons.mpr ⟨trivial, List.forall_mem_cons.mpr ⟨trivial, List.forall_mem_cons.mpr ⟨trivial, List.forall_mem_cons.mpr ⟨trivial, fun _ h => absurd h List.not_mem_nil⟩⟩⟩⟩⟩⟩⟩⟩⟩⟩⟩⟩⟩⟩⟩⟩⟩⟩⟩
set_option maxRecDepth 100000 in
theorem zq_25 : ∀ e ∈ zm_c25, zm_okq 25 e.2 := List.forall_mem_cons.mpr ⟨trivial, List.forall_mem_cons.mpr ⟨trivial, List.forall_mem_cons.mpr ⟨⟨_, _, _, rfl, by decide, zm_f1.1, zm_f1.2.1, zm_f1.2.2, Or.inl ⟨_, zw_49, Or.inl rfl⟩⟩, List.forall_mem_cons.mpr ⟨trivial, List.forall_mem_cons.mpr ⟨⟨_, _, _, rfl, by decide, zm_f1.1, zm_f1.2.1, zm_f1.2.2, Or.inl ⟨_, zw_48, Or.inl rfl⟩⟩, List.forall_mem_cons.mpr ⟨trivial, List.forall_mem_cons.mpr ⟨trivial, List.forall_mem_cons.mpr ⟨trivial, List.forall_mem_cons.mpr ⟨⟨_, _, _, rfl, by decide, zm_f1.1, zm_f1.2.1, zm_f1.2.2, Or.inl ⟨_, zw_45, Or.inl rfl⟩⟩, List.forall_mem_cons.mpr ⟨trivial, List.forall_mem_cons.mpr ⟨⟨_, _, _, rfl, by decide, zm_f1.1, zm_f1.2.1, zm_f1.2.2, Or.inl ⟨_, zw_49, Or.inl rfl⟩⟩, List.forall_mem_cons.mpr ⟨trivial, List.forall_mem_cons.mpr ⟨trivial, List.forall_mem_cons.mpr ⟨trivial, List.forall_mem_cons.mpr ⟨trivial, List.forall_mem_cons.mpr ⟨trivial, List.forall_mem_cons.mpr ⟨trivial, List.forall_mem_cons.mpr ⟨trivial, List.forall_mem_cons.mpr ⟨trivial, List.forall_mem_cons.mpr ⟨trivial, List.forall_mem_cons.mpr ⟨⟨_, _, _, rfl, by decide, zm_f1.1, zm_f1.2.1, zm_f1.2.2, Or.inl ⟨_, zw_45, Or.inl rfl⟩⟩, List.forall_mem_cons.mpr ⟨trivial, List.forall_mem_cons.mpr ⟨⟨_, _, _, rfl, by decide, zm_f1.1, zm_f1.2.1, zm_f1.2.2, Or.inl ⟨_, zw_49, Or.inl rfl⟩⟩, List.forall_mem_cons.mpr ⟨trivial, List.forall_mem_cons.mpr ⟨trivial, List.forall_mem_cons.mpr ⟨trivial, List.forall_mem_cons.mpr ⟨trivial, List.forall_mem_cons.mpr ⟨trivial, List.forall_mem_cons.mpr ⟨trivial, List.forall_mem_cons.mpr ⟨trivial, List.forall_mem_cons.mpr ⟨⟨_, _, _, rfl, by decide, zm_f1.1, zm_f1.2.1, zm_f1.2.2, Or.inl ⟨_, zw_49, Or.inl rfl⟩⟩, List.forall_mem_cons.mpr ⟨trivial, List.forall_mem_cons.mpr ⟨trivial, List.forall_mem_cons.mpr ⟨⟨⟨_, _, _, rfl, by decide, zm_f1.1, zm_f1.2.1, zm_f1.2.2, Or.inl ⟨_, zw_49, Or.inl rfl⟩⟩, zm_okw_n rfl rfl⟩, List.forall_mem_cons.mpr ⟨trivial, List.forall_mem_cons.mpr ⟨trivial, List.forall_mem_cons.mpr ⟨⟨_, _, _, rfl, by decide, zm_f1.1, zm_f1.2.1, zm_f1.2.2, Or.inl ⟨_, zw_50, Or.inl rfl⟩⟩, List.forall_mem_cons.mpr ⟨trivial, List.forall_mem_cons.mpr ⟨trivial, List.forall_mem_cons.mpr ⟨trivial, List.forall_mem_cons.mpr ⟨trivial, List.forall_mem_cons.mpr ⟨⟨⟨_, _, _, rfl, by decide, zm_f1.1, zm_f1.2.1, zm_f1.2.2, Or.inl ⟨_, zw_50, Or.inl rfl⟩⟩, zm_okw_n rfl rfl⟩, List.forall_mem_cons.mpr ⟨trivial, List.forall_mem_cons.mpr ⟨trivial, List.forall_mem_cons.mpr ⟨trivial, List.forall_mem_cons.mpr ⟨trivial, List.forall_mem_cons.mpr ⟨trivial, List.forall_mem_cons.mpr ⟨trivial, List.forall_mem_cons.mpr ⟨trivial, List.forall_mem_cons.mpr ⟨trivial, List.forall_mem_cons.mpr ⟨trivial, List.forall_mem_cons.mpr ⟨trivial, List.forall_mem_cons.mpr ⟨trivial, List.forall_mem_cons.mpr ⟨trivial, List.forall_mem_cons.mpr ⟨trivial, List.forall_mem_cons.mpr ⟨trivial, List.forall_mem_cons.mpr ⟨trivial, List.forall_mem_cons.mpr ⟨trivial, List.forall_mem_cons.mpr ⟨trivial, List.forall_mem_cons.mpr ⟨trivial, List.forall_mem_cons.mpr ⟨trivial, List.forall_mem_cons.mpr ⟨trivial, List.forall_mem_cons.mpr ⟨trivial, List.forall_mem_cons.mpr ⟨trivial, List.forall_mem_cons.mpr ⟨trivial, List.forall_mem_cons.mpr ⟨trivial, List.forall_mem_cons.mpr ⟨trivial, List.forall_mem_cons.mpr ⟨trivial, List.forall_mem_cons.mpr ⟨trivial, List.forall_mem_cons.mpr ⟨trivial, List.forall_mem_cons.mpr ⟨trivial, List.forall_mem_cons.mpr ⟨trivial, List.forall_mem_cons.mpr ⟨trivial, List.forall_mem_cons.mpr ⟨trivial, List.forall_mem_cons.mpr ⟨trivial, List.forall_mem_cons.mpr ⟨trivial, List.forall_mem_cons.mpr ⟨⟨_, _, _, rfl, rfl, zm_f7.1, zm_f7.2.1, zw_354, zw_355, zw_15⟩, List.forall_mem_cons.mpr ⟨trivial, List.forall_mem_cons.mpr ⟨trivial, List.forall_mem_cons.mpr ⟨trivial, List.forall_mem_cons.mpr ⟨trivial, List.forall_mem_cons.mpr ⟨trivial, List.forall_mem_cons.mpr ⟨trivial, List.forall_mem_cons.mpr ⟨trivial, List.forall_mem_cons.mpr ⟨trivial, fun _ h => absurd h List.not_mem_nil⟩⟩⟩⟩⟩⟩⟩⟩⟩⟩⟩⟩⟩⟩⟩⟩⟩⟩⟩⟩⟩⟩⟩⟩⟩⟩⟩⟩⟩⟩⟩⟩⟩⟩⟩⟩⟩⟩⟩⟩⟩⟩⟩⟩⟩⟩⟩⟩⟩⟩⟩⟩⟩⟩⟩⟩⟩⟩⟩⟩⟩⟩⟩⟩⟩⟩⟩⟩⟩⟩⟩⟩⟩⟩⟩⟩⟩⟩⟩⟩⟩⟩⟩⟩⟩
set_option maxRecDepth 100000 in
theorem zq_26 : ∀ e ∈ zm_c26, zm_okq 26 e.2 := List.forall_mem_cons.mpr ⟨trivial, List.forall_mem_cons.mpr ⟨trivial, List.forall_mem_cons.mpr ⟨trivial, List.forall_mem_cons.mpr ⟨trivial, List.forall_mem_cons.mpr ⟨trivial, List.forall_mem_cons.mpr ⟨trivial, List.forall_mem_cons.mpr ⟨trivial, List.forall_mem_cons.mpr ⟨trivial, List.forall_mem_cons.mpr ⟨trivial, List.forall_mem_cons.mpr ⟨trivial, List.forall_mem_cons.mpr ⟨trivial, List.forall_mem_cons.mpr ⟨trivial, List.forall_mem_cons.mpr ⟨trivial, List.forall_mem_cons.mpr ⟨⟨_, _, _, rfl, by decide, zm_f1.1, zm_f1.2.1, zm_f1.2.2, Or.inl ⟨_, zw_49, Or.inl rfl⟩⟩, List.forall_mem_cons.mpr ⟨trivial, List.forall_mem_cons.mpr ⟨⟨_, _, _, rfl, by decide, zm_f1.1, zm_f1.2.1, zm_f1.2.2, Or.inl ⟨_, zw_50, Or.inl rfl⟩⟩, List.forall_mem_cons.mpr ⟨trivial, List.forall_mem_cons.mpr ⟨trivial, List.forall_mem_cons.mpr ⟨trivial, List.forall_mem_cons.mpr ⟨trivial, List.forall_mem_cons.mpr ⟨trivial, List.forall_mem_cons.mpr ⟨trivial, List.forall_mem_cons.mpr ⟨trivial, List.forall_mem_cons.mpr ⟨trivial, List.forall_mem_cons.mpr ⟨trivial, fun _ h => absurd h List.not_mem_nil⟩⟩⟩⟩⟩⟩⟩⟩⟩⟩⟩⟩⟩⟩⟩⟩⟩⟩⟩⟩⟩⟩⟩⟩⟩
set_option maxRecDepth 100000 in
theorem zq_27 : ∀ e ∈ zm_c27, zm_okq 27 e.2 := List.forall_mem_cons.mpr ⟨trivial, List.forall_mem_cons.mpr ⟨trivial, List.forall_mem_cons.mpr ⟨trivial, List.forall_mem_cons.mpr ⟨trivial, List.forall_mem_cons.mpr ⟨trivial, List.forall_mem_cons.mpr ⟨trivial, List.forall_mem_cons.mpr ⟨trivial, List.forall_mem_cons.mpr ⟨trivial, List.forall_mem_cons.mpr ⟨trivial, List.forall_mem_cons.mpr ⟨trivial, fun _ h => absurd h List.not_mem_nil⟩⟩⟩⟩⟩⟩⟩⟩⟩⟩
set_option maxRecDepth 100000 in
theorem zq_28 : ∀ e ∈ zm_c28, zm_okq 28 e.2 := List.forall_mem_cons.mpr ⟨trivial, List.forall_mem_cons.mpr ⟨trivial, List.forall_mem_cons.mpr ⟨trivial, List.forall_mem_cons.mpr ⟨trivial, List.forall_mem_cons.mpr ⟨trivial, List.forall_mem_cons.mpr ⟨trivial, List.forall_mem_cons.mpr ⟨trivial, List.forall_mem_cons.mpr ⟨trivial, List.forall_mem_cons.mpr ⟨trivial, List.forall_mem_cons.mpr ⟨trivial, List.forall_mem_cons.mpr ⟨trivial, List.forall_mem_cons.mpr ⟨trivial, List.forall_mem_cons.mpr ⟨trivial, List.forall_mem_cons.mpr ⟨trivial, List.forall_mem_cons.mpr ⟨trivial, List.forall_mem_cons.mpr ⟨trivial, List.forall_mem_cons.mpr ⟨trivial, fun _ h => absurd h List.not_mem_nil⟩⟩⟩⟩⟩⟩⟩⟩⟩⟩⟩⟩⟩⟩⟩⟩⟩
set_option maxRecDepth 100000 in
theorem zq_29 : ∀ e ∈ zm_c29, zm_okq 29 e.2 := List.forall_mem_cons.mpr ⟨trivial, List.forall_mem_cons.mpr ⟨trivial, List.forall_mem_cons.mpr ⟨trivial, List.forall_mem_cons.mpr ⟨trivial, List.forall_mem_cons.mpr ⟨trivial, List.forall_mem_cons.mpr ⟨trivial, List.forall_mem_cons.mpr ⟨trivial, List.forall_mem_cons.mpr ⟨trivial, List.forall_mem_cons.mpr ⟨trivial, List.forall_mem_cons.mpr ⟨trivial, fun _ h => absurd h List.not_mem_nil⟩⟩⟩⟩⟩⟩⟩⟩⟩⟩
set_option maxRecDepth 100000 in
theorem zq_30 : ∀ e ∈ zm_c30, zm_okq 30 e.2 := List.forall_mem_cons.mpr ⟨trivial, List.forall_mem_cons.mpr ⟨trivial, List.forall_mem_cons.mpr ⟨trivial, List.forall_mem_cons.mpr ⟨⟨_, _, _, rfl, rfl, zm_f7.1, zm_f7.2.1, zw_354, zw_355, zw_15⟩, List.forall_mem_cons.mpr ⟨trivial, List.forall_mem_cons.mpr ⟨trivial, List.forall_mem_cons.mpr ⟨trivial, List.forall_mem_cons.mpr ⟨trivial, List.forall_mem_cons.mpr ⟨trivial, List.forall_mem_cons.mpr ⟨trivial, List.forall_mem_cons.mpr ⟨trivial, List.forall_mem_cons.mpr ⟨trivial, List.forall_mem_cons.mpr ⟨trivial, List.forall_mem_cons.mpr ⟨trivial, List.forall_mem_cons.mpr ⟨trivial, List.forall_mem_cons.mpr ⟨trivial, List.forall_mem_cons.mpr ⟨trivial, List.forall_mem_cons.mpr ⟨⟨_, _, _, rfl, rfl, zm_f7.1, zm_f7.2.1, zw_354, zw_355, zw_15⟩, List.forall_mem_cons.mpr ⟨trivial, List.forall_mem_cons.mpr ⟨trivial, List.forall_mem_cons.mpr ⟨trivial, List.forall_mem_cons.mpr ⟨trivial, List.forall_mem_cons.mpr ⟨trivial, List.forall_mem_cons.mpr ⟨trivial, List.forall_mem_cons.mpr ⟨trivial, List.forall_mem_cons.mpr ⟨trivial, List.forall_mem_cons.mpr ⟨trivial, List.forall_mem_cons.mpr ⟨trivial, List.forall_mem_cons.mpr ⟨trivial, List.forall_mem_cons.mpr ⟨trivial, List.forall_mem_cons.mpr ⟨trivial, List.forall_mem_cons.mpr ⟨trivial, List.forall_mem_cons.mpr ⟨trivial, List.forall_mem_cons.mpr ⟨trivial, List.forall_mem_cons.mpr ⟨⟨_, _, _, rfl, rfl, zm_f7.1, zm_f7.2.1, zw_354, zw_355, zw_15⟩, List.forall_mem_cons.mpr ⟨trivial, List.forall_mem_cons.mpr ⟨trivial, List.forall_mem_cons.mpr ⟨trivial, List.forall_mem_cons.mpr ⟨trivial, List.forall_mem_cons.mpr ⟨trivial, List.forall_mem_cons.mpr ⟨trivial, List.forall_mem_cons.mpr ⟨trivial, List.forall_mem_cons.mpr ⟨trivial, List.forall_mem_cons.mpr ⟨⟨_, _, _, rfl, rfl, zm_f7.1, zm_f7.2.1, zw_354, zw_355, zw_15⟩, List.forall_mem_cons.mpr ⟨trivial, List.forall_mem_cons.mpr ⟨trivial, List.forall_mem_cons.mpr ⟨trivial, List.forall_mem_cons.mpr ⟨trivial, List.forall_mem_cons.mpr ⟨trivial, List.forall_mem_cons.mpr ⟨trivial, List.forall_mem_cons.mpr ⟨trivial, List.forall_mem_cons.mpr ⟨trivial, fun _ h => absurd h List.not_mem_nil⟩⟩⟩⟩⟩⟩⟩⟩⟩⟩⟩⟩⟩⟩⟩⟩⟩⟩⟩⟩⟩⟩⟩⟩⟩⟩⟩⟩⟩⟩⟩⟩⟩⟩⟩⟩⟩⟩⟩⟩⟩⟩⟩⟩⟩⟩⟩⟩⟩⟩⟩⟩
set_option maxRecDepth 100000 in
theorem zq_31 : ∀ e ∈ zm_c31, zm_okq 31 e.2 := List.forall_mem_cons.mpr ⟨trivial, List.forall_mem_cons.mpr ⟨trivial, List.forall_mem_cons.mpr ⟨trivial, List.forall_mem_cons.mpr ⟨trivial, List.forall_mem_cons.mpr ⟨⟨⟨_, _, _, rfl, by decide, zm_f7.1, zm_f7.2.1, zm_f7.2.2, Or.inl ⟨_, zw_360, Or.inl rfl⟩⟩, zm_okw_f rfl rfl rfl zw_360⟩, List.forall_mem_cons.mpr ⟨trivial, List.forall_mem_cons.mpr ⟨trivial, List.forall_mem_cons.mpr ⟨⟨⟨_, _, _, rfl, by decide, zm_f7.1, zm_f7.2.1, zm_f7.2.2, Or.inl ⟨_, zw_362, Or.inl rfl⟩⟩, zm_okw_f rfl rfl rfl zw_362⟩, List.forall_mem_cons.mpr ⟨trivial, List.forall_mem_cons.mpr ⟨trivial, List.forall_mem_cons.mpr ⟨⟨⟨_, _, _, rfl, by decide, zm_f7.1, zm_f7.2.1, zm_f7.2.2, Or.inl ⟨_, zw_364, Or.inl rfl⟩⟩, zm_okw_f rfl rfl rfl zw_364⟩, List.forall_mem_cons.mpr ⟨trivial, List.forall_mem_cons.mpr ⟨trivial, List.forall_mem_cons.mpr ⟨⟨⟨_, _, _, rfl, by decide, zm_f7.1, zm_f7.2.1, zm_f7.2.2, Or.inl ⟨_, zw_366, Or.inl rfl⟩⟩, zm_okw_f rfl rfl rfl zw_366⟩, List.forall_mem_cons.mpr ⟨trivial, List.forall_mem_cons.mpr ⟨trivial, List.forall_mem_cons.mpr ⟨⟨⟨_, _, _, rfl, by decide, zm_f7.1, zm_f7.2.1, zm_f7.2.2, Or.inl ⟨_, zw_368, Or.inl rfl⟩⟩, zm_okw_f rfl rfl rfl zw_368⟩, List.forall_mem_cons.mpr ⟨trivial, fun _ h => absurd h List.not_mem_nil⟩⟩⟩⟩⟩⟩⟩⟩⟩⟩⟩⟩⟩⟩⟩⟩⟩⟩
set_option maxRecDepth 100000 in
theorem zq_32 : ∀ e ∈ zm_c32, zm_okq 32 e.2 := List.forall_mem_cons.mpr ⟨trivial, List.forall_mem_cons.mpr ⟨trivial, List.forall_mem_cons.mpr ⟨trivial, List.forall_mem_cons.mpr ⟨trivial, List.forall_mem_cons.mpr ⟨⟨⟨_, _, _, rfl, by decide, zm_f6.1, zm_f6.2.1, zm_f6.2.2, Or.inl ⟨_, zw_385, Or.inl rfl⟩⟩, zm_okw_f rfl rfl rfl zw_385⟩, List.forall_mem_cons.mpr ⟨trivial, List.forall_mem_cons.mpr ⟨trivial, List.forall_mem_cons.mpr ⟨⟨⟨_, _, _, rfl, by decide, zm_f6.1, zm_f6.2.1, zm_f6.2.2, Or.inl ⟨_, zw_387, Or.inl rfl⟩⟩, zm_okw_f rfl rfl rfl zw_387⟩, List.forall_mem_cons.mpr ⟨trivial, List.forall_mem_cons.mpr ⟨trivial, List.forall_mem_cons.mpr ⟨⟨⟨_, _, _, rfl, by decide, zm_f6.1, zm_f6.2.1, zm_f6.2.2, Or.inl ⟨_, zw_389, Or.inl rfl⟩⟩, zm_okw_f rfl rfl rfl zw_389⟩, List.forall_mem_cons.mpr ⟨trivial, fun _ h => absurd h List.not_mem_nil⟩⟩⟩⟩⟩⟩⟩⟩⟩⟩⟩⟩
set_option maxRecDepth 100000 in
theorem zq_33 : ∀ e ∈ zm_c33, zm_okq 33 e.2 := List.forall_mem_cons.mpr ⟨trivial, List.forall_mem_cons.mpr ⟨trivial, List.forall_mem_cons.mpr ⟨trivial, List.forall_mem_cons.mpr ⟨trivial, List.forall_mem_cons.mpr ⟨trivial, List.forall_mem_cons.mpr ⟨trivial, List.forall_mem_cons.mpr ⟨trivial, List.forall_mem_cons.mpr ⟨trivial, List.forall_mem_cons.mpr ⟨trivial, List.forall_mem_cons.mpr ⟨trivial, List.forall_mem_cons.mpr ⟨trivial, List.forall_mem_cons.mpr ⟨trivial, List.forall_mem_cons.mpr ⟨trivial, List.forall_mem_cons.mpr ⟨trivial, List.forall_mem_cons.mpr ⟨trivial, List.forall_mem_cons.mpr ⟨trivial, List.forall_mem_cons.mpr ⟨trivial, List.forall_mem_cons.mpr ⟨trivial, List.forall_mem_cons.mpr ⟨trivial, List.forall_mem_cons.mpr ⟨trivial, List.forall_mem_cons.mpr ⟨trivial, List.forall_mem_cons.mpr ⟨trivial, List.forall_mem_cons.mpr ⟨trivial, List.forall_mem_cons.mpr ⟨trivial, fun _ h => absurd h List.not_mem_nil⟩⟩⟩⟩⟩⟩⟩⟩⟩⟩⟩⟩⟩⟩⟩⟩⟩⟩⟩⟩⟩⟩⟩⟩
set_option maxRecDepth 100000 in
theorem zq_34 : ∀ e ∈ zm_c34, zm_okq 34 e.2 := List.forall_mem_cons.mpr ⟨trivial, List.forall_mem_cons.mpr ⟨⟨_, _, _, rfl, by decide, zm_f0.1, zm_f0.2.1, zm_f0.2.2, Or.inl ⟨_, zw_153, Or.inl rfl⟩⟩, List.forall_mem_cons.mpr ⟨trivial, List.forall_mem_cons.mpr ⟨trivial, List.forall_mem_cons.mpr ⟨trivial, List.forall_mem_cons.mpr ⟨trivial, List.forall_mem_cons.mpr ⟨⟨⟨_, _, _, rfl, by decide, zm_f0.1, zm_f0.2.1, zm_f0.2.2, Or.inl ⟨_, zw_156, Or.inl rfl⟩⟩, zm_okw_n rfl rfl⟩, List.forall_mem_cons.mpr ⟨trivial, List.forall_mem_cons.mpr ⟨⟨_, _, _, rfl, by decide, zm_f0.1, zm_f0.2.1, zm_f0.2.2, Or.inl ⟨_, zw_154, Or.inl rfl⟩⟩, List.forall_mem_cons.mpr ⟨trivial, List.forall_mem_cons.mpr ⟨trivial, List.forall_mem_cons.mpr ⟨trivial, List.forall_mem_cons.mpr ⟨⟨⟨_, _, _, rfl, by decide, zm_f0.1, zm_f0.2.1, zm_f0.2.2, Or.inl ⟨_, zw_157, Or.inl rfl⟩⟩, zm_okw_n rfl rfl⟩, List.forall_mem_cons.mpr ⟨trivial, List.forall_mem_cons.mpr ⟨trivial, List.forall_mem_cons.mpr ⟨⟨⟨_, _, _, rfl, by decide, zm_f0.1, zm_f0.2.1, zm_f0.2.2, Or.inl ⟨_, zw_161, Or.inl rfl⟩⟩, zm_okw_n rfl rfl⟩, List.forall_mem_cons.mpr ⟨trivial, List.forall_mem_cons.mpr ⟨trivial, List.forall_mem_cons.mpr ⟨trivial, List.forall_mem_cons.mpr ⟨trivial, List.forall_mem_cons.mpr ⟨trivial, List.forall_mem_cons.mpr ⟨trivial, List.forall_mem_cons.mpr ⟨⟨⟨_, _, _, rfl, by decide, zm_f0.1, zm_f0.2.1, zm_f0.2.2, Or.inl ⟨_, zw_156, Or.inl rfl⟩⟩, zm_okw_n rfl rfl⟩, List.forall_mem_cons.mpr ⟨trivial, List.forall_mem_cons.mpr ⟨⟨_, _, _, rfl, by decide, zm_f0.1, zm_f0.2.1, zm_f0.2.2, Or.inl ⟨_, zw_156, Or.inl rfl⟩⟩, List.forall_mem_cons.mpr ⟨⟨_, _, _, rfl, by decide, zm_f3.1, zm_f3.2.1, zm_f3.2.2, Or.inl ⟨_, zw_82, Or.inl rfl⟩⟩, List.forall_mem_cons.mpr ⟨trivial, fun _ h => absurd h List.not_mem_nil⟩⟩⟩⟩⟩⟩⟩⟩⟩⟩⟩⟩⟩⟩⟩⟩⟩⟩⟩⟩⟩⟩⟩⟩⟩⟩⟩
set_option maxRecDepth 100000 in
theorem zq_35 : ∀ e ∈ zm_c35, zm_okq 35 e.2 := List.forall_mem_cons.mpr ⟨trivial, List.forall_mem_cons.mpr ⟨trivial, List.forall_mem_cons.mpr ⟨trivial, List.forall_mem_cons.mpr ⟨trivial, List.forall_mem_cons.mpr ⟨trivial, fun _ h => absurd h List.not_mem_nil⟩⟩⟩⟩⟩
set_option maxRecDepth 100000 in
theorem zq_36 : ∀ e ∈ zm_c36, zm_okq 36 e.2 := List.forall_mem_cons.mpr ⟨trivial, List.forall_mem_cons.mpr ⟨trivial, List.forall_mem_cons.mpr ⟨⟨⟨_, _, _, rfl, by decide, zm_f2.1, zm_f2.2.1, zm_f2.2.2, Or.inl ⟨_, zw_133, Or.inl rfl⟩⟩, zm_okw_n rfl rfl⟩, List.forall_mem_cons.mpr ⟨trivial, List.forall_mem_cons.mpr ⟨trivial, List.forall_mem_cons.mpr ⟨⟨⟨_, _, _, rfl, by decide, zm_f2.1, zm_f2.2.1, zm_f2.2.2, Or.inl ⟨_, zw_134, Or.inl rfl⟩⟩, zm_okw_n rfl rfl⟩, List.forall_mem_cons.mpr ⟨trivial, List.forall_mem_cons.mpr ⟨trivial, List.forall_mem_cons.mpr ⟨⟨⟨_, _, _, rfl, by decide, zm_f2.1, zm_f2.2.1, zm_f2.2.2, Or.inl ⟨_, zw_135, Or.inl rfl⟩⟩, zm_okw_n rfl rfl⟩, List.forall_mem_cons.mpr ⟨trivial, fun _ h => absurd h List.not_mem_nil⟩⟩⟩⟩⟩⟩⟩⟩⟩⟩
set_option maxRecDepth 100000 in
theorem zq_37 : ∀ e ∈ zm_c37, zm_okq 37 e.2 := List.forall_mem_cons.mpr ⟨trivial, List.forall_mem_cons.mpr ⟨trivial, List.forall_mem_cons.mpr ⟨trivial, List.forall_mem_cons.mpr ⟨trivial, List.forall_mem_cons.mpr ⟨trivial, List.forall_mem_cons.mpr ⟨⟨_, _, _, rfl, by decide, zm_f0.1, zm_f0.2.1, zm_f0.2.2, Or.inl ⟨_, zw_161, Or.inl rfl⟩⟩, List.forall_mem_cons.mpr ⟨trivial, List.forall_mem_cons.mpr ⟨trivial, List.forall_mem_cons.mpr ⟨⟨⟨_, _, _, rfl, by decide, zm_f0.1, zm_f0.2.1, zm_f0.2.2, Or.inl ⟨_, zw_161, Or.inl rfl⟩⟩, zm_okw_n rfl rfl⟩, List.forall_mem_cons.mpr ⟨trivial, List.forall_mem_cons.mpr ⟨⟨_, _, _, rfl, by decide, zm_f7.1, zm_f7.2.1, zm_f7.2.2, Or.inl ⟨_, zw_361, Or.inl rfl⟩⟩, List.forall_mem_cons.mpr ⟨trivial, List.forall_mem_cons.mpr ⟨trivial, List.forall_mem_cons.mpr ⟨⟨_, _, _, rfl, by decide, zm_f0.1, zm_f0.2.1, zm_f0.2.2, Or.inl ⟨_, zw_154, Or.inl rfl⟩⟩, List.forall_mem_cons.mpr ⟨trivial, List.forall_mem_cons.mpr ⟨⟨_, _, _, rfl, by decide, zm_f7.1, zm_f7.2.1, zm_f7.2.2, Or.inl ⟨_, zw_363, Or.inl rfl⟩⟩, List.forall_mem_cons.mpr ⟨trivial, List.forall_mem_cons.mpr ⟨trivial, List.forall_mem_cons.mpr ⟨trivial, List.forall_mem_cons.mpr ⟨⟨_, _, _, rfl, by decide, zm_f0.1, zm_f0.2.1, zm_f0.2.2, Or.inl ⟨_, zw_154, Or.inl rfl⟩⟩, List.forall_mem_cons.mpr ⟨⟨_, _, _, rfl, by decide, zm_f2.1, zm_f2.2.1, zm_f2.2.2, Or.inl ⟨_, zw_129, Or.inl rfl⟩⟩, List.forall_mem_cons.mpr ⟨trivial, List.forall_mem_cons.mpr ⟨trivial, List.forall_mem_cons.mpr ⟨trivial, List.forall_mem_cons.mpr ⟨trivial, List.forall_mem_cons.mpr ⟨⟨_, _, _, rfl, by decide, zm_f7.1, zm_f7.2.1, zm_f7.2.2, Or.inl ⟨_, zw_363, Or.inl rfl⟩⟩, List.forall_mem_cons.mpr ⟨trivial, List.forall_mem_cons.mpr ⟨trivial, List.forall_mem_cons.mpr ⟨trivial, List.forall_mem_cons.mpr ⟨trivial, List.forall_mem_cons.mpr ⟨trivial, List.forall_mem_cons.mpr ⟨trivial, List.forall_mem_cons.mpr ⟨⟨_, _, _, rfl, by decide, zm_f7.1, zm_f7.2.1, zm_f7.2.2, Or.inl ⟨_, zw_363, Or.inl rfl⟩⟩, List.forall_mem_cons.mpr ⟨trivial, List.forall_mem_cons.mpr ⟨trivial, List.forall_mem_cons.mpr ⟨trivial, List.forall_mem_cons.mpr ⟨trivial, List.forall_mem_cons.mpr ⟨⟨_, _, _, rfl, by decide, zm_f0.1, zm_f0.2.1, zm_f0.2.2, Or.inl ⟨_, zw_154, Or.inl rfl⟩⟩, List.forall_mem_cons.mpr ⟨trivial, List.forall_mem_cons.mpr ⟨trivial, List.forall_mem_cons.mpr ⟨⟨_, _, _, rfl, by decide, zm_f7.1, zm_f7.2.1, zm_f7.2.2, Or.inl ⟨_, zw_365, Or.inl rfl⟩⟩, List.forall_mem_cons.mpr ⟨trivial, List.forall_mem_cons.mpr ⟨trivial, List.forall_mem_cons.mpr ⟨trivial, List.forall_mem_cons.mpr ⟨trivial, List.forall_mem_cons.mpr ⟨⟨_, _, _, rfl, by decide, zm_f7.1, zm_f7.2.1, zm_f7.2.2, Or.inl ⟨_, zw_367, Or.inl rfl⟩⟩, List.forall_mem_cons.mpr ⟨trivial, List.forall_mem_cons.mpr ⟨trivial, List.forall_mem_cons.mpr ⟨trivial, List.forall_mem_cons.mpr ⟨trivial, List.forall_mem_cons.mpr ⟨trivial, List.forall_mem_cons.mpr ⟨trivial, List.forall_mem_cons.mpr ⟨trivial, List.forall_mem_cons.mpr ⟨trivial, List.forall_mem_cons.mpr ⟨trivial, List.forall_mem_cons.mpr ⟨trivial, List.forall_mem_cons.mpr ⟨trivial, List.forall_mem_cons.mpr ⟨trivial, List.forall_mem_cons.mpr ⟨trivial, List.forall_mem_cons.mpr ⟨⟨_, _, _, rfl, by decide, zm_f7.1, zm_f7.2.1, zm_f7.2.2, Or.inl ⟨_, zw_365, Or.inl rfl⟩⟩, List.forall_mem_cons.mpr ⟨trivial, List.forall_mem_cons.mpr ⟨trivial, List.forall_mem_cons.mpr ⟨trivial, List.forall_mem_cons.mpr ⟨trivial, List.forall_mem_cons.mpr ⟨trivial, List.forall_mem_cons.mpr ⟨trivial, List.forall_mem_cons.mpr ⟨⟨_, _, _, rfl, by decide, zm_f3.1, zm_f3.2.1, zm_f3.2.2, Or.inl ⟨_, zw_86, Or.inl rfl⟩⟩, List.forall_mem_cons.mpr ⟨trivial, List.forall_mem_cons.mpr ⟨trivial, List.forall_mem_cons.mpr ⟨trivial, List.forall_mem_cons.mpr ⟨trivial, List.forall_mem_cons.mpr ⟨trivial, List.forall_mem_cons.mpr ⟨trivial, List.forall_mem_cons.mpr ⟨⟨_, _, _, rfl, by decide, zm_f7.1, zm_f7.2.1, zm_f7.2.2, Or.inl ⟨_, zw_365, Or.inl rfl⟩⟩, List.forall_mem_cons.mpr ⟨trivial, List.forall_mem_cons.mpr ⟨trivial, List.forall_mem_cons.mpr ⟨trivial, List.forall_mem_cons.mpr ⟨trivial, List.forall_mem_cons.mpr ⟨trivial, List.forall_mem_cons.mpr ⟨trivial, List.forall_mem_cons.mpr ⟨⟨_, _, _, rfl, by decide, zm_f3.1, zm_f3.2.1, zm_f3.2.2, Or.inl ⟨_, zw_88, Or.inl rfl⟩⟩, List.forall_mem_cons.mpr ⟨trivial, List.forall_mem_cons.mpr ⟨trivial, List.forall_mem_cons.mpr ⟨trivial, List.forall_mem_cons.mpr ⟨trivial, List.forall_mem_cons.mpr ⟨⟨_, _, _, rfl, by decide, zm_f0.1, zm_f0.2.1, zm_f0.2.2, Or.inl ⟨_, zw_154, Or.inl rfl⟩⟩, List.forall_mem_cons.mpr ⟨trivial, List.forall_mem_cons.mpr ⟨trivial, List.forall_mem_cons.mpr ⟨⟨_, _, _, rfl, by decide, zm_f7.1, zm_f7.2.1, zm_f7.2.2, Or.inl ⟨_, zw_365, Or.inl rfl⟩⟩, List.forall_mem_cons.mpr ⟨trivial, List.forall_mem_cons.mpr ⟨trivial, List.forall_mem_cons.mpr ⟨trivial, List.forall_mem_cons.mpr ⟨trivial, List.forall_mem_cons.mpr ⟨trivial, List.forall_mem_cons.mpr ⟨trivial, List.forall_mem_cons.mpr ⟨trivial, List.forall_mem_cons.mpr ⟨trivial, List.forall_mem_cons.mpr ⟨trivial, List.forall_mem_cons.mpr ⟨trivial, List.forall_mem_cons.mpr ⟨trivial, List.forall_mem_cons.mpr ⟨trivial, List.forall_mem_cons.mpr ⟨trivial, List.forall_mem_cons.mpr ⟨trivial, List.forall_mem_cons.mpr ⟨trivial, List.forall_mem_cons.mpr ⟨trivial, List.forall_mem_cons.mpr ⟨trivial, List.forall_mem_cons.mpr ⟨trivial, List.forall_mem_cons.mpr ⟨trivial, List.forall_mem_cons.mpr ⟨trivial, fun _ h => absurd h List.not_mem_nil⟩⟩⟩⟩⟩⟩⟩⟩⟩⟩⟩⟩⟩⟩⟩⟩⟩⟩⟩⟩⟩⟩⟩⟩⟩⟩⟩⟩⟩⟩⟩⟩⟩⟩⟩⟩⟩⟩⟩⟩⟩⟩⟩⟩⟩⟩⟩⟩⟩⟩⟩⟩⟩⟩⟩⟩⟩⟩⟩⟩⟩⟩⟩⟩⟩⟩⟩⟩⟩⟩⟩⟩⟩⟩⟩⟩⟩⟩⟩⟩⟩⟩⟩⟩⟩⟩⟩⟩⟩⟩⟩⟩⟩⟩⟩⟩⟩⟩⟩⟩⟩⟩⟩⟩⟩⟩⟩⟩⟩
set_option maxRecDepth 100000 in
theorem zq_38 : ∀ e ∈ zm_c38, zm_okq 38 e.2 := List.forall_mem_cons.mpr ⟨trivial, List.forall_mem_cons.mpr ⟨trivial, List.forall_mem_cons.mpr ⟨trivial, List.forall_mem_cons.mpr ⟨trivial, List.forall_mem_cons.mpr ⟨trivial, List.forall_mem_cons.mpr ⟨trivial, List.forall_mem_cons.mpr ⟨⟨⟨_, _, _, rfl, by decide, zm_f3.1, zm_f3.2.1, zm_f3.2.2, Or.inl ⟨_, zw_83, Or.inl rfl⟩⟩, zm_okw_n rfl rfl⟩, List.forall_mem_cons.mpr ⟨trivial, List.forall_mem_cons.mpr ⟨trivial, fun _ h => absurd h List.not_mem_nil⟩⟩⟩⟩⟩⟩⟩⟩⟩
set_option maxRecDepth 100000 in
theorem zq_39 : ∀ e ∈ zm_c39, zm_okq 39 e.2 := List.forall_mem_cons.mpr ⟨trivial, List.forall_mem_cons.mpr ⟨⟨_, _, _, rfl, by decide, zm_f2.1, zm_f2.2.1, zm_f2.2.2, Or.inl ⟨_, zw_133, Or.inl rfl⟩⟩, List.forall_mem_cons.mpr ⟨trivial, List.forall_mem_cons.mpr ⟨⟨_, _, _, rfl, by decide, zm_f2.1, zm_f2.2.1, zm_f2.2.2, Or.inl ⟨_, zw_130, Or.inl rfl⟩⟩, List.forall_mem_cons.mpr ⟨trivial, List.forall_mem_cons.mpr ⟨trivial, List.forall_mem_cons.mpr ⟨trivial, List.forall_mem_cons.mpr ⟨⟨_, _, _, rfl, by decide, zm_f2.1, zm_f2.2.1, zm_f2.2.2, Or.inl ⟨_, zw_130, Or.inl rfl⟩⟩, List.forall_mem_cons.mpr ⟨⟨_, _, _, rfl, rfl, zm_f3.1, zm_f3.2.1, zw_75, zw_76, zw_4⟩, List.forall_mem_cons.mpr ⟨trivial, List.forall_mem_cons.mpr ⟨trivial, List.forall_mem_cons.mpr ⟨trivial, List.forall_mem_cons.mpr ⟨trivial, List.forall_mem_cons.mpr ⟨trivial, List.forall_mem_cons.mpr ⟨⟨_, _, _, rfl, by decide, zm_f2.1, zm_f2.2.1, zm_f2.2.2, Or.inl ⟨_, zw_130, Or.inl rfl⟩⟩, List.forall_mem_cons.mpr ⟨trivial, List.forall_mem_cons.mpr ⟨⟨_, _, _, rfl, by decide, zm_f2.1, zm_f2.2.1, zm_f2.2.2, Or.inl ⟨_, zw_133, Or.inl rfl⟩⟩, List.forall_mem_cons.mpr ⟨trivial, List.forall_mem_cons.mpr ⟨⟨_, _, _, _, zw_75, rfl, Or.inl rfl⟩, List.forall_mem_cons.mpr ⟨trivial, List.forall_mem_cons.mpr ⟨trivial, List.forall_mem_cons.mpr ⟨trivial, List.forall_mem_cons.mpr ⟨⟨_, _, _, rfl, by decide, zm_f2.1, zm_f2.2.1, zm_f2.2.2, Or.inl ⟨_, zw_133, Or.inl rfl⟩⟩, List.forall_mem_cons.mpr ⟨trivial, List.forall_mem_cons.mpr ⟨trivial, List.forall_mem_cons.mpr ⟨⟨⟨_, _, _, rfl, by decide, zm_f2.1, zm_f2.2.1, zm_f2.2.2, Or.inl ⟨_, zw_133, Or.inl rfl⟩⟩, zm_okw_n rfl rfl⟩, List.forall_mem_cons.mpr ⟨trivial, List.forall_mem_cons.mpr ⟨trivial, List.forall_mem_cons.mpr ⟨⟨⟨_, _, _, rfl, by decide, zm_f3.1, zm_f3.2.1, zm_f3.2.2, Or.inl ⟨_, zw_81, Or.inl rfl⟩⟩, zm_okw_n rfl rfl⟩, List.forall_mem_cons.mpr ⟨trivial, List.forall_mem_cons.mpr ⟨trivial, fun _ h => absurd h List.not_mem_nil⟩⟩⟩⟩⟩⟩⟩⟩⟩⟩⟩⟩⟩⟩⟩⟩⟩⟩⟩⟩⟩⟩⟩⟩⟩⟩⟩⟩⟩⟩⟩
set_option maxRecDepth 100000 in
theorem zq_40 : ∀ e ∈ zm_c40, zm_okq 40 e.2 := List.forall_mem_cons.mpr ⟨trivial, List.forall_mem_cons.mpr ⟨trivial, List.forall_mem_cons.mpr ⟨trivial, List.forall_mem_cons.mpr ⟨trivial, List.forall_mem_cons.mpr ⟨trivial, List.forall_mem_cons.mpr ⟨⟨_, _, _, rfl, by decide, zm_f9.1, zm_f9.2.1, zm_f9.2.2, Or.inl ⟨_, zw_627, Or.inl rfl⟩⟩, List.forall_mem_cons.mpr ⟨trivial, List.forall_mem_cons.mpr ⟨trivial, List.forall_mem_cons.mpr ⟨trivial, List.forall_mem_cons.mpr ⟨trivial, List.forall_mem_cons.mpr ⟨trivial, List.forall_mem_cons.mpr ⟨⟨_, _, _, rfl, by decide, zm_f9.1, zm_f9.2.1, zm_f9.2.2, Or.inl ⟨_, zw_625, Or.inl rfl⟩⟩, List.forall_mem_cons.mpr ⟨trivial, List.forall_mem_cons.mpr ⟨trivial, List.forall_mem_cons.mpr ⟨⟨_, _, _, rfl, by decide, zm_f9.1, zm_f9.2.1, zm_f9.2.2, Or.inl ⟨_, zw_623, Or.inl rfl⟩⟩, List.forall_mem_cons.mpr ⟨trivial, List.forall_mem_cons.mpr ⟨trivial, fun _ h => absurd h List.not_mem_nil⟩⟩⟩⟩⟩⟩⟩⟩⟩⟩⟩⟩⟩⟩⟩⟩⟩
set_option maxRecDepth 100000 in
theorem zq_41 : ∀ e ∈ zm_c41, zm_okq 41 e.2 := List.forall_mem_cons.mpr ⟨trivial, List.forall_mem_cons.mpr ⟨⟨_, _, _, rfl, by decide, zm_f8.1, zm_f8.2.1, zm_f8.2.2, Or.inl ⟨_, zw_576, Or.inl rfl⟩⟩, List.forall_mem_cons.mpr ⟨trivial, List.forall_mem_cons.mpr ⟨trivial, List.forall_mem_cons.mpr ⟨trivial, List.forall_mem_cons.mpr ⟨⟨_, _, _, rfl, by decide, zm_f0.1, zm_f0.2.1, zm_f0.2.2, Or.inl ⟨_, zw_160, Or.inl rfl⟩⟩, List.forall_mem_cons.mpr ⟨trivial, List.forall_mem_cons.mpr ⟨trivial, List.forall_mem_cons.mpr ⟨⟨⟨_, _, _, rfl, by decide, zm_f0.1, zm_f0.2.1, zm_f0.2.2, Or.inl ⟨_, zw_160, Or.inl rfl⟩⟩, zm_okw_n rfl rfl⟩, List.forall_mem_cons.mpr ⟨trivial, List.forall_mem_cons.mpr ⟨trivial, List.forall_mem_cons.mpr ⟨trivial, List.forall_mem_cons.mpr ⟨trivial, List.forall_mem_cons.mpr ⟨trivial, List.forall_mem_cons.mpr ⟨⟨⟨_, _, _, rfl, by decide, zm_f8.1, zm_f8.2.1, zm_f8.2.2, Or.inl ⟨_, zw_576, Or.inl rfl⟩⟩, zm_okw_n rfl rfl⟩, List.forall_mem_cons.mpr ⟨trivial, List.forall_mem_cons.mpr ⟨trivial, List.forall_mem_cons.mpr ⟨⟨_, _, _, rfl, by decide, zm_f0.1, zm_f0.2.1, zm_f0.2.2, Or.inl ⟨_, zw_159, Or.inl rfl⟩⟩, List.forall_mem_cons.mpr ⟨trivial, List.forall_mem_cons.mpr ⟨trivial, List.forall_mem_cons.mpr ⟨⟨⟨_, _, _, rfl, by decide, zm_f0.1, zm_f0.2.1, zm_f0.2.2, Or.inl ⟨_, zw_159, Or.inl rfl⟩⟩, zm_okw_n rfl rfl⟩, List.forall_mem_cons.mpr ⟨trivial, List.forall_mem_cons.mpr ⟨trivial, List.forall_mem_cons.mpr ⟨⟨_, _, _, rfl, by decide, zm_f8.1, zm_f8.2.1, zm_f8.2.2, Or.inl ⟨_, zw_572, Or.inl rfl⟩⟩, List.forall_mem_cons.mpr ⟨trivial, List.forall_mem_cons.mpr ⟨⟨_, _, _, rfl, by decide, zm_f8.1, zm_f8.2.1, zm_f8.2.2, Or.inl ⟨_, zw_574, Or.inl rfl⟩⟩, List.forall_mem_cons.mpr ⟨trivial, List.forall_mem_cons.mpr ⟨trivial, List.forall_mem_cons.mpr ⟨trivial, List.forall_mem_cons.mpr ⟨trivial, List.forall_mem_cons.mpr ⟨trivial, List.forall_mem_cons.mpr ⟨trivial, List.forall_mem_cons.mpr ⟨trivial, List.forall_mem_cons.mpr ⟨⟨⟨_, _, _, rfl, by decide, zm_f8.1, zm_f8.2.1, zm_f8.2.2, Or.inl ⟨_, zw_578, Or.inl rfl⟩⟩, zm_okw_n rfl rfl⟩, List.forall_mem_cons.mpr ⟨trivial, List.forall_mem_cons.mpr ⟨trivial, fun _ h => absurd h List.not_mem_nil⟩⟩⟩⟩⟩⟩⟩⟩⟩⟩⟩⟩⟩⟩⟩⟩⟩⟩⟩⟩⟩⟩⟩⟩⟩⟩⟩⟩⟩⟩⟩⟩⟩⟩⟩⟩
set_option maxRecDepth 100000 in
theorem zq_42 : ∀ e ∈ zm_c42, zm_okq 42 e.2 := List.forall_mem_cons.mpr ⟨trivial, List.forall_mem_cons.mpr ⟨⟨_, _, _, rfl, by decide, zm_f8.1, zm_f8.2.1, zm_f8.2.2, Or.inl ⟨_, zw_578, Or.inl rfl⟩⟩, List.forall_mem_cons.mpr ⟨trivial, List.forall_mem_cons.mpr ⟨trivial, List.forall_mem_cons.mpr ⟨⟨_, _, _, rfl, by decide, zm_f8.1, zm_f8.2.1, zm_f8.2.2, Or.inl ⟨_, zw_578, Or.inl rfl⟩⟩, List.forall_mem_cons.mpr ⟨trivial, fun _ h => absurd h List.not_mem_nil⟩⟩⟩⟩⟩⟩
set_option maxRecDepth 100000 in
theorem zq_43 : ∀ e ∈ zm_c43, zm_okq 43 e.2 := List.forall_mem_cons.mpr ⟨trivial, List.forall_mem_cons.mpr ⟨trivial, List.forall_mem_cons.mpr ⟨trivial, List.forall_mem_cons.mpr ⟨trivial, List.forall_mem_cons.mpr ⟨trivial, List.forall_mem_cons.mpr ⟨⟨_, _, _, rfl, by decide, zm_f6.1, zm_f6.2.1, zm_f6.2.2, Or.inl ⟨_, zw_388, Or.inl rfl⟩⟩, List.forall_mem_cons.mpr ⟨trivial, List.forall_mem_cons.mpr ⟨trivial, List.forall_mem_cons.mpr ⟨trivial, List.forall_mem_cons.mpr ⟨trivial, List.forall_mem_cons.mpr ⟨trivial, List.forall_mem_cons.mpr ⟨trivial, List.forall_mem_cons.mpr ⟨trivial, List.forall_mem_cons.mpr ⟨trivial, List.forall_mem_cons.mpr ⟨⟨_, _, _, rfl, by decide, zm_f0.1, zm_f0.2.1, zm_f0.2.2, Or.inl ⟨_, zw_154, Or.inl rfl⟩⟩, List.forall_mem_cons.mpr ⟨trivial, List.forall_mem_cons.mpr ⟨trivial, List.forall_mem_cons.mpr ⟨trivial, List.forall_mem_cons.mpr ⟨trivial, fun _ h => absurd h List.not_mem_nil⟩⟩⟩⟩⟩⟩⟩⟩⟩⟩⟩⟩⟩⟩⟩⟩⟩⟩⟩
set_option maxRecDepth 100000 in
theorem zq_44 : ∀ e ∈ zm_c44, zm_okq 44 e.2 := List.forall_mem_cons.mpr ⟨trivial, List.forall_mem_cons.mpr ⟨⟨_, _, _, rfl, by decide, zm_f0.1, zm_f0.2.1, zm_f0.2.2, Or.inl ⟨_, zw_155, Or.inl rfl⟩⟩, List.forall_mem_cons.mpr ⟨trivial, List.forall_mem_cons.mpr ⟨trivial, List.forall_mem_cons.mpr ⟨trivial, List.forall_mem_cons.mpr ⟨trivial, List.forall_mem_cons.mpr ⟨trivial, List.forall_mem_cons.mpr ⟨trivial, List.forall_mem_cons.mpr ⟨trivial, fun _ h => absurd h List.not_mem_nil⟩⟩⟩⟩⟩⟩⟩⟩⟩
set_option maxRecDepth 100000 in
theorem zq_45 : ∀ e ∈ zm_c45, zm_okq 45 e.2 := List.forall_mem_cons.mpr ⟨trivial, List.forall_mem_cons.mpr ⟨⟨_, _, _, rfl, by decide, zm_f0.1, zm_f0.2.1, zm_f0.2.2, Or.inl ⟨_, zw_157, Or.inl rfl⟩⟩, List.forall_mem_cons.mpr ⟨trivial, List.forall_mem_cons.mpr ⟨trivial, List.forall_mem_cons.mpr ⟨trivial, List.forall_mem_cons.mpr ⟨trivial, List.forall_mem_cons.mpr ⟨⟨_, _, _, rfl, by decide, zm_f0.1, zm_f0.2.1, zm_f0.2.2, Or.inl ⟨_, zw_157, Or.inl rfl⟩⟩, List.forall_mem_cons.mpr ⟨trivial, List.forall_mem_cons.mpr ⟨trivial, List.forall_mem_cons.mpr ⟨⟨⟨_, _, _, rfl, by decide, zm_f0.1, zm_f0.2.1, zm_f0.2.2, Or.inl ⟨_, zw_157, Or.inl rfl⟩⟩, zm_okw_n rfl rfl⟩, List.forall_mem_cons.mpr ⟨trivial, List.forall_mem_cons.mpr ⟨trivial, List.forall_mem_cons.mpr ⟨⟨_, _, _, rfl, by decide, zm_f0.1, zm_f0.2.1, zm_f0.2.2, Or.inl ⟨_, zw_158, Or.inl rfl⟩⟩, List.forall_mem_cons.mpr ⟨trivial, List.forall_mem_cons.mpr ⟨trivial, List.forall_mem_cons.mpr ⟨⟨⟨_, _, _, rfl, by decide, zm_f0.1, zm_f0.2.1, zm_f0.2.2, Or.inl ⟨_, zw_158, Or.inl rfl⟩⟩, zm_okw_n rfl rfl⟩, List.forall_mem_cons.mpr ⟨trivial, List.forall_mem_cons.mpr ⟨trivial, List.forall_mem_cons.mpr ⟨⟨_, _, _, rfl, by decide, zm_f6.1, zm_f6.2.1, zm_f6.2.2, Or.inl ⟨_, zw_390, Or.inl rfl⟩⟩, List.forall_mem_cons.mpr ⟨trivial, List.forall_mem_cons.mpr ⟨trivial, List.forall_mem_cons.mpr ⟨trivial, List.forall_mem_cons.mpr ⟨trivial, List.forall_mem_cons.mpr ⟨trivial, List.forall_mem_cons.mpr ⟨trivial, fun _ h => absurd h List.not_mem_nil⟩⟩⟩⟩⟩⟩⟩⟩⟩⟩⟩⟩⟩⟩⟩⟩⟩⟩⟩⟩⟩⟩⟩⟩⟩
set_option maxRecDepth 100000 in
theorem zq_46 : ∀ e ∈ zm_c46, zm_okq 46 e.2 := List.forall_mem_cons.mpr ⟨trivial, List.forall_mem_cons.mpr ⟨trivial, List.forall_mem_cons.mpr ⟨trivial, List.forall_mem_cons.mpr ⟨trivial, List.forall_mem_cons.mpr ⟨trivial, List.forall_mem_cons.mpr ⟨trivial, List.forall_mem_cons.mpr ⟨⟨⟨_, _, _, rfl, by decide, zm_f3.1, zm_f3.2.1, zm_f3.2.2, Or.inl ⟨_, zw_83, Or.inl rfl⟩⟩, zm_okw_n rfl rfl⟩, List.forall_mem_cons.mpr ⟨trivial, List.forall_mem_cons.mpr ⟨trivial, List.forall_mem_cons.mpr ⟨⟨⟨_, _, _, rfl, by decide, zm_f3.1, zm_f3.2.1, zm_f3.2.2, Or.inl ⟨_, zw_89, Or.inl rfl⟩⟩, zm_okw_n rfl rfl⟩, List.forall_mem_cons.mpr ⟨trivial, List.forall_mem_cons.mpr ⟨trivial, fun _ h => absurd h List.not_mem_nil⟩⟩⟩⟩⟩⟩⟩⟩⟩⟩⟩⟩
set_option maxRecDepth 100000 in
theorem zq_47 : ∀ e ∈ zm_c47, zm_okq 47 e.2 := List.forall_mem_cons.mpr ⟨trivial, List.forall_mem_cons.mpr ⟨⟨_, _, _, rfl, by decide, zm_f7.1, zm_f7.2.1, zm_f7.2.2, Or.inl ⟨_, zw_361, Or.inl rfl⟩⟩, List.forall_mem_cons.mpr ⟨trivial, List.forall_mem_cons.mpr ⟨trivial, List.forall_mem_cons.mpr ⟨trivial, List.forall_mem_cons.mpr ⟨trivial, List.forall_mem_cons.mpr ⟨⟨_, _, _, rfl, by decide, zm_f7.1, zm_f7.2.1, zm_f7.2.2, Or.inl ⟨_, zw_363, Or.inl rfl⟩⟩, List.forall_mem_cons.mpr ⟨trivial, List.forall_mem_cons.mpr ⟨trivial, List.forall_mem_cons.mpr ⟨trivial, List.forall_mem_cons.mpr ⟨⟨_, _, _, rfl, by decide, zm_f0.1, zm_f0.2.1, zm_f0.2.2, Or.inl ⟨_, zw_154, Or.inl rfl⟩⟩, List.forall_mem_cons.mpr ⟨trivial, List.forall_mem_cons.mpr ⟨trivial, List.forall_mem_cons.mpr ⟨trivial, List.forall_mem_cons.mpr ⟨trivial, fun _ h => absurd h List.not_mem_nil⟩⟩⟩⟩⟩⟩⟩⟩⟩⟩⟩⟩⟩⟩⟩
set_option maxRecDepth 100000 in
theorem zq_48 : ∀ e ∈ zm_c48, zm_okq 48 e.2 := List.forall_mem_cons.mpr ⟨trivial, List.forall_mem_cons.mpr ⟨⟨_, _, _, rfl, by decide, zm_f2.1, zm_f2.2.1, zm_f2.2.2, Or.inl ⟨_, zw_134, Or.inl rfl⟩⟩, List.forall_mem_cons.mpr ⟨trivial, List.forall_mem_cons.mpr ⟨⟨_, _, _, rfl, by decide, zm_f2.1, zm_f2.2.1, zm_f2.2.2, Or.inl ⟨_, zw_131, Or.inl rfl⟩⟩, List.forall_mem_cons.mpr ⟨trivial, List.forall_mem_cons.mpr ⟨trivial, List.forall_mem_cons.mpr ⟨trivial, List.forall_mem_cons.mpr ⟨⟨_, _, _, rfl, by decide, zm_f2.1, zm_f2.2.1, zm_f2.2.2, Or.inl ⟨_, zw_131, Or.inl rfl⟩⟩, List.forall_mem_cons.mpr ⟨⟨_, _, _, rfl, rfl, zm_f8.1, zm_f8.2.1, zw_565, zw_566, zw_23⟩, List.forall_mem_cons.mpr ⟨trivial, List.forall_mem_cons.mpr ⟨trivial, List.forall_mem_cons.mpr ⟨trivial, List.forall_mem_cons.mpr ⟨trivial, List.forall_mem_cons.mpr ⟨trivial, List.forall_mem_cons.mpr ⟨⟨_, _, _, rfl, by decide, zm_f2.1, zm_f2.2.1, zm_f2.2.2, Or.inl ⟨_, zw_131, Or.inl rfl⟩⟩, List.forall_mem_cons.mpr ⟨trivial, List.forall_mem_cons.mpr ⟨⟨_, _, _, rfl, by decide, zm_f2.1, zm_f2.2.1, zm_f2.2.2, Or.inl ⟨_, zw_134, Or.inl rfl⟩⟩, List.forall_mem_cons.mpr ⟨trivial, List.forall_mem_cons.mpr ⟨⟨_, _, _, _, zw_565, rfl, Or.inl rfl⟩, List.forall_mem_cons.mpr ⟨trivial, List.forall_mem_cons.mpr ⟨trivial, List.forall_mem_cons.mpr ⟨trivial, List.forall_mem_cons.mpr ⟨⟨_, _, _, rfl, by decide, zm_f2.1, zm_f2.2.1, zm_f2.2.2, Or.inl ⟨_, zw_134, Or.inl rfl⟩⟩, List.forall_mem_cons.mpr ⟨trivial, List.forall_mem_cons.mpr ⟨trivial, List.forall_mem_cons.mpr ⟨⟨⟨_, _, _, rfl, by decide, zm_f2.1, zm_f2.2.1, zm_f2.2.2, Or.inl ⟨_, zw_134, Or.inl rfl⟩⟩, zm_okw_n rfl rfl⟩, List.forall_mem_cons.mpr ⟨trivial, List.forall_mem_cons.mpr ⟨trivial, List.forall_mem_cons.mpr ⟨⟨⟨_, _, _, rfl, by decide, zm_f8.1, zm_f8.2.1, zm_f8.2.2, Or.inl ⟨_, zw_571, Or.inl rfl⟩⟩, zm_okw_n rfl rfl⟩, List.forall_mem_cons.mpr ⟨trivial, List.forall_mem_cons.mpr ⟨trivial, List.forall_mem_cons.mpr ⟨⟨⟨_, _, _, rfl, by decide, zm_f8.1, zm_f8.2.1, zm_f8.2.2, Or.inl ⟨_, zw_573, Or.inl rfl⟩⟩, zm_okw_n rfl rfl⟩, List.forall_mem_cons.mpr ⟨trivial, List.forall_mem_cons.mpr ⟨trivial, List.forall_mem_cons.mpr ⟨⟨⟨_, _, _, rfl, by decide, zm_f8.1, zm_f8.2.1, zm_f8.2.2, Or.inl ⟨_, zw_575, Or.inl rfl⟩⟩, zm_okw_n rfl rfl⟩, List.forall_mem_cons.mpr ⟨trivial, List.forall_mem_cons.mpr ⟨trivial, List.forall_mem_cons.mpr ⟨⟨⟨_, _, _, rfl, by decide, zm_f8.1, zm_f8.2.1, zm_f8.2.2, Or.inl ⟨_, zw_577, Or.inl rfl⟩⟩, zm_okw_n rfl rfl⟩, List.forall_mem_cons.mpr ⟨trivial, List.forall_mem_cons.mpr ⟨trivial, fun _ h => absurd h List.not_mem_nil⟩⟩⟩⟩⟩⟩⟩⟩⟩⟩⟩⟩⟩⟩⟩⟩⟩⟩⟩⟩⟩⟩⟩⟩⟩⟩⟩⟩⟩⟩⟩⟩⟩⟩⟩⟩⟩⟩⟩⟩
set_option maxRecDepth 100000 in
theorem zq_49 : ∀ e ∈ zm_c49, zm_okq 49 e.2 := List.forall_mem_cons.mpr ⟨trivial, List.forall_mem_cons.mpr ⟨trivial, List.forall_mem_cons.mpr ⟨trivial, fun _ h => absurd h List.not_mem_nil⟩⟩⟩
set_option maxRecDepth 100000 in
theorem zq_50 : ∀ e ∈ zm_c50, zm_okq 50 e.2 := List.forall_mem_cons.mpr ⟨trivial, List.forall_mem_cons.mpr ⟨trivial, List.forall_mem_cons.mpr ⟨trivial, List.forall_mem_cons.mpr ⟨trivial, List.forall_mem_cons.mpr ⟨trivial, List.forall_mem_cons.mpr ⟨trivial, List.forall_mem_cons.mpr ⟨⟨⟨_, _, _, rfl, by decide, zm_f3.1, zm_f3.2.1, zm_f3.2.2, Or.inl ⟨_, zw_85, Or.inl rfl⟩⟩, zm_okw_n rfl rfl⟩, List.forall_mem_cons.mpr ⟨trivial, List.forall_mem_cons.mpr ⟨trivial, List.forall_mem_cons.mpr ⟨⟨⟨_, _, _, rfl, by decide, zm_f3.1, zm_f3.2.1, zm_f3.2.2, Or.inl ⟨_, zw_87, Or.inl rfl⟩⟩, zm_okw_n rfl rfl⟩, List.forall_mem_cons.mpr ⟨trivial, List.forall_mem_cons.mpr ⟨trivial, fun _ h => absurd h List.not_mem_nil⟩⟩⟩⟩⟩⟩⟩⟩⟩⟩⟩⟩
set_option maxRecDepth 100000 in
theorem zq_51 : ∀ e ∈ zm_c51, zm_okq 51 e.2 := List.forall_mem_cons.mpr ⟨trivial, List.forall_mem_cons.mpr ⟨trivial, List.forall_mem_cons.mpr ⟨⟨_, _, _, rfl, by decide, zm_f7.1, zm_f7.2.1, zm_f7.2.2, Or.inl ⟨_, zw_365, Or.inl rfl⟩⟩, List.forall_mem_cons.mpr ⟨trivial, List.forall_mem_cons.mpr ⟨trivial, List.forall_mem_cons.mpr ⟨trivial, List.forall_mem_cons.mpr ⟨trivial, List.forall_mem_cons.mpr ⟨trivial, List.forall_mem_cons.mpr ⟨trivial, List.forall_mem_cons.mpr ⟨trivial, List.forall_mem_cons.mpr ⟨⟨_, _, _, rfl, by decide, zm_f3.1, zm_f3.2.1, zm_f3.2.2, Or.inl ⟨_, zw_82, Or.inl rfl⟩⟩, List.forall_mem_cons.mpr ⟨trivial, List.forall_mem_cons.mpr ⟨trivial, List.forall_mem_cons.mpr ⟨trivial, List.forall_mem_cons.mpr ⟨trivial, List.forall_mem_cons.mpr ⟨⟨_, _, _, rfl, by decide, zm_f3.1, zm_f3.2.1, zm_f3.2.2, Or.inl ⟨_, zw_84, Or.inl rfl⟩⟩, List.forall_mem_cons.mpr ⟨trivial, List.forall_mem_cons.mpr ⟨trivial, List.forall_mem_cons.mpr ⟨trivial, List.forall_mem_cons.mpr ⟨⟨_, _, _, rfl, by decide, zm_f0.1, zm_f0.2.1, zm_f0.2.2, Or.inl ⟨_, zw_154, Or.inl rfl⟩⟩, List.forall_mem_cons.mpr ⟨trivial, List.forall_mem_cons.mpr ⟨⟨_, _, _, rfl, by decide, zm_f3.1, zm_f3.2.1, zm_f3.2.2, Or.inl ⟨_, zw_90, Or.inl rfl⟩⟩, List.forall_mem_cons.mpr ⟨trivial, List.forall_mem_cons.mpr ⟨trivial, List.forall_mem_cons.mpr ⟨⟨_, _, _, rfl, by decide, zm_f7.1, zm_f7.2.1, zm_f7.2.2, Or.inl ⟨_, zw_367, Or.inl rfl⟩⟩, List.forall_mem_cons.mpr ⟨trivial, List.forall_mem_cons.mpr ⟨trivial, List.forall_mem_cons.mpr ⟨trivial, List.forall_mem_cons.mpr ⟨trivial, List.forall_mem_cons.mpr ⟨trivial, List.forall_mem_cons.mpr ⟨⟨_, _, _, rfl, by decide, zm_f9.1, zm_f9.2.1, zm_f9.2.2, Or.inl ⟨_, zw_627, Or.inl rfl⟩⟩, List.forall_mem_cons.mpr ⟨trivial, List.forall_mem_cons.mpr ⟨⟨_, _, _, rfl, by decide, zm_f6.1, zm_f6.2.1, zm_f6.2.2, Or.inl ⟨_, zw_388, Or.inl rfl⟩⟩, List.forall_mem_cons.mpr ⟨trivial, List.forall_mem_cons.mpr ⟨trivial, List.forall_mem_cons.mpr ⟨⟨_, _, _, rfl, by decide, zm_f0.1, zm_f0.2.1, zm_f0.2.2, Or.inl ⟨_, zw_154, Or.inl rfl⟩⟩, List.forall_mem_cons.mpr ⟨trivial, List.forall_mem_cons.mpr ⟨⟨_, _, _, rfl, by decide, zm_f3.1, zm_f3.2.1, zm_f3.2.2, Or.inl ⟨_, zw_84, Or.inl rfl⟩⟩, List.forall_mem_cons.mpr ⟨trivial, List.forall_mem_cons.mpr ⟨trivial, List.forall_mem_cons.mpr ⟨trivial, List.forall_mem_cons.mpr ⟨trivial, List.forall_mem_cons.mpr ⟨trivial, List.forall_mem_cons.mpr ⟨trivial, List.forall_mem_cons.mpr ⟨trivial, List.forall_mem_cons.mpr ⟨trivial, List.forall_mem_cons.mpr ⟨trivial, fun _ h => absurd h List.not_mem_nil⟩⟩⟩⟩⟩⟩⟩⟩⟩⟩⟩⟩⟩⟩⟩⟩⟩⟩⟩⟩⟩⟩⟩⟩⟩⟩⟩⟩⟩⟩⟩⟩⟩⟩⟩⟩⟩⟩⟩⟩⟩⟩⟩⟩⟩⟩⟩
set_option maxRecDepth 100000 in
theorem zq_52 : ∀ e ∈ zm_c52, zm_okq 52 e.2 := List.forall_mem_cons.mpr ⟨trivial, List.forall_mem_cons.mpr ⟨⟨_, _, _, rfl, by decide, zm_f2.1, zm_f2.2.1, zm_f2.2.2, Or.inl ⟨_, zw_135, Or.inl rfl⟩⟩, List.forall_mem_cons.mpr ⟨trivial, List.forall_mem_cons.mpr ⟨⟨_, _, _, rfl, by decide, zm_f2.1, zm_f2.2.1, zm_f2.2.2, Or.inl ⟨_, zw_132, Or.inl rfl⟩⟩, List.forall_mem_cons.mpr ⟨trivial, List.forall_mem_cons.mpr ⟨trivial, List.forall_mem_cons.mpr ⟨trivial, List.forall_mem_cons.mpr ⟨⟨_, _, _, rfl, by decide, zm_f2.1, zm_f2.2.1, zm_f2.2.2, Or.inl ⟨_, zw_132, Or.inl rfl⟩⟩, List.forall_mem_cons.mpr ⟨⟨_, _, _, rfl, rfl, zm_f9.1, zm_f9.2.1, zw_616, zw_617, zw_25⟩, List.forall_mem_cons.mpr ⟨trivial, List.forall_mem_cons.mpr ⟨trivial, List.forall_mem_cons.mpr ⟨trivial, List.forall_mem_cons.mpr ⟨trivial, List.forall_mem_cons.mpr ⟨trivial, List.forall_mem_cons.mpr ⟨⟨_, _, _, rfl, by decide, zm_f2.1, zm_f2.2.1, zm_f2.2.2, Or.inl ⟨_, zw_132, Or.inl rfl⟩⟩, List.forall_mem_cons.mpr ⟨trivial, List.forall_mem_cons.mpr ⟨⟨_, _, _, rfl, by decide, zm_f2.1, zm_f2.2.1, zm_f2.2.2, Or.inl ⟨_, zw_135, Or.inl rfl⟩⟩, List.forall_mem_cons.mpr ⟨trivial, List.forall_mem_cons.mpr ⟨⟨_, _, _, _, zw_616, rfl, Or.inl rfl⟩, List.forall_mem_cons.mpr ⟨trivial, List.forall_mem_cons.mpr ⟨trivial, List.forall_mem_cons.mpr ⟨trivial, List.forall_mem_cons.mpr ⟨⟨_, _, _, rfl, by decide, zm_f2.1, zm_f2.2.1, zm_f2.2.2, Or.inl ⟨_, zw_135, Or.inl rfl⟩⟩, List.forall_mem_cons.mpr ⟨trivial, List.forall_mem_cons.mpr ⟨trivial, List.forall_mem_cons.mpr ⟨⟨⟨_, _, _, rfl, by decide, zm_f2.1, zm_f2.2.1, zm_f2.2.2, Or.inl ⟨_, zw_135, Or.inl rfl⟩⟩, zm_okw_n rfl rfl⟩, List.forall_mem_cons.mpr ⟨trivial, List.forall_mem_cons.mpr ⟨trivial, List.forall_mem_cons.mpr ⟨⟨⟨_, _, _, rfl, by decide, zm_f9.1, zm_f9.2.1, zm_f9.2.2, Or.inl ⟨_, zw_622, Or.inl rfl⟩⟩, zm_okw_n rfl rfl⟩, List.forall_mem_cons.mpr ⟨trivial, List.forall_mem_cons.mpr ⟨trivial, List.forall_mem_cons.mpr ⟨⟨⟨_, _, _, rfl, by decide, zm_f9.1, zm_f9.2.1, zm_f9.2.2, Or.inl ⟨_, zw_624, Or.inl rfl⟩⟩, zm_okw_n rfl rfl⟩, List.forall_mem_cons.mpr ⟨trivial, List.forall_mem_cons.mpr ⟨trivial, List.forall_mem_cons.mpr ⟨trivial, List.forall_mem_cons.mpr ⟨trivial, List.forall_mem_cons.mpr ⟨trivial, List.forall_mem_cons.mpr ⟨trivial, List.forall_mem_cons.mpr ⟨⟨_, _, _, rfl, by decide, zm_f9.1, zm_f9.2.1, zm_f9.2.2, Or.inl ⟨_, zw_626, Or.inl rfl⟩⟩, List.forall_mem_cons.mpr ⟨trivial, List.forall_mem_cons.mpr ⟨trivial, List.forall_mem_cons.mpr ⟨⟨⟨_, _, _, rfl, by decide, zm_f9.1, zm_f9.2.1, zm_f9.2.2, Or.inl ⟨_, zw_626, Or.inl rfl⟩⟩, zm_okw_n rfl rfl⟩, List.forall_mem_cons.mpr ⟨trivial, List.forall_mem_cons.mpr ⟨trivial, fun _ h => absurd h List.not_mem_nil⟩⟩⟩⟩⟩⟩⟩⟩⟩⟩⟩⟩⟩⟩⟩⟩⟩⟩⟩⟩⟩⟩⟩⟩⟩⟩⟩⟩⟩⟩⟩⟩⟩⟩⟩⟩⟩⟩⟩⟩⟩⟩⟩⟩
set_option maxRecDepth 100000 in
theorem zq_53 : ∀ e ∈ zm_c53, zm_okq 53 e.2 := List.forall_mem_cons.mpr ⟨trivial, List.forall_mem_cons.mpr ⟨trivial, List.forall_mem_cons.mpr ⟨trivial, fun _ h => absurd h List.not_mem_nil⟩⟩⟩
set_option maxRecDepth 100000 in
theorem zq_54 : ∀ e ∈ zm_c54, zm_okq 54 e.2 := List.forall_mem_cons.mpr ⟨trivial, List.forall_mem_cons.mpr ⟨⟨_, _, _, rfl, by decide, zm_f3.1, zm_f3.2.1, zm_f3.2.2, Or.inl ⟨_, zw_82, Or.inl rfl⟩⟩, List.forall_mem_cons.mpr ⟨trivial, List.forall_mem_cons.mpr ⟨trivial, List.forall_mem_cons.mpr ⟨trivial, List.forall_mem_cons.mpr ⟨⟨_, _, _, rfl, by decide, zm_f3.1, zm_f3.2.1, zm_f3.2.2, Or.inl ⟨_, zw_82, Or.inl rfl⟩⟩, List.forall_mem_cons.mpr ⟨trivial, List.forall_mem_cons.mpr ⟨trivial, List.forall_mem_cons.mpr ⟨trivial, List.forall_mem_cons.mpr ⟨trivial, fun _ h => absurd h List.not_mem_nil⟩⟩⟩⟩⟩⟩⟩⟩⟩⟩
set_option maxRecDepth 100000 in
theorem zq_55 : ∀ e ∈ zm_c55, zm_okq 55 e.2 := List.forall_mem_cons.mpr ⟨trivial, List.forall_mem_cons.mpr ⟨⟨_, _, _, rfl, by decide, zm_f3.1, zm_f3.2.1, zm_f3.2.2, Or.inl ⟨_, zw_82, Or.inl rfl⟩⟩, List.forall_mem_cons.mpr ⟨trivial, List.forall_mem_cons.mpr ⟨trivial, List.forall_mem_cons.mpr ⟨trivial, List.forall_mem_cons.mpr ⟨⟨_, _, _, rfl, by decide, zm_f3.1, zm_f3.2.1, zm_f3.2.2, Or.inl ⟨_, zw_82, Or.inl rfl⟩⟩, List.forall_mem_cons.mpr ⟨trivial, List.forall_mem_cons.mpr ⟨trivial, List.forall_mem_cons.mpr ⟨trivial, List.forall_mem_cons.mpr ⟨⟨_, _, _, rfl, by decide, zm_f3.1, zm_f3.2.1, zm_f3.2.2, Or.inl ⟨_, zw_82, Or.inl rfl⟩⟩, List.forall_mem_cons.mpr ⟨trivial, List.forall_mem_cons.mpr ⟨trivial, List.forall_mem_cons.mpr ⟨trivial, List.forall_mem_cons.mpr ⟨trivial, List.forall_mem_cons.mpr ⟨trivial, List.forall_mem_cons.mpr ⟨trivial, fun _ h => absurd h List.not_mem_nil⟩⟩⟩⟩⟩⟩⟩⟩⟩⟩⟩⟩⟩⟩⟩⟩
set_option maxRecDepth 100000 in
theorem zq_56 : ∀ e ∈ zm_c56, zm_okq 56 e.2 := List.forall_mem_cons.mpr ⟨trivial, List.forall_mem_cons.mpr ⟨trivial, List.forall_mem_cons.mpr ⟨⟨_, _, _, rfl, by decide, zm_f7.1, zm_f7.2.1, zm_f7.2.2, Or.inl ⟨_, zw_365, Or.inl rfl⟩⟩, List.forall_mem_cons.mpr ⟨trivial, List.forall_mem_cons.mpr ⟨trivial, List.forall_mem_cons.mpr ⟨trivial, List.forall_mem_cons.mpr ⟨trivial, List.forall_mem_cons.mpr ⟨trivial, List.forall_mem_cons.mpr ⟨trivial, List.forall_mem_cons.mpr ⟨trivial, List.forall_mem_cons.mpr ⟨trivial, List.forall_mem_cons.mpr ⟨trivial, List.forall_mem_cons.mpr ⟨trivial, List.forall_mem_cons.mpr ⟨trivial, List.forall_mem_cons.mpr ⟨⟨_, _, _, rfl, by decide, zm_f7.1, zm_f7.2.1, zm_f7.2.2, Or.inl ⟨_, zw_367, Or.inl rfl⟩⟩, List.forall_mem_cons.mpr ⟨trivial, List.forall_mem_cons.mpr ⟨trivial, List.forall_mem_cons.mpr ⟨⟨_, _, _, rfl, by decide, zm_f7.1, zm_f7.2.1, zm_f7.2.2, Or.inl ⟨_, zw_369, Or.inl rfl⟩⟩, List.forall_mem_cons.mpr ⟨trivial, List.forall_mem_cons.mpr ⟨trivial, List.forall_mem_cons.mpr ⟨trivial, List.forall_mem_cons.mpr ⟨trivial, List.forall_mem_cons.mpr ⟨trivial, List.forall_mem_cons.mpr ⟨trivial, fun _ h => absurd h List.not_mem_nil⟩⟩⟩⟩⟩⟩⟩⟩⟩⟩⟩⟩⟩⟩⟩⟩⟩⟩⟩⟩⟩⟩⟩⟩
set_option maxRecDepth 100000 in
theorem zq_57 : ∀ e ∈ zm_c57, zm_okq 57 e.2 := List.forall_mem_cons.mpr ⟨trivial, List.forall_mem_cons.mpr ⟨⟨_, _, _, rfl, by decide, zm_f3.1, zm_f3.2.1, zm_f3.2.2, Or.inl ⟨_, zw_82, Or.inl rfl⟩⟩, List.forall_mem_cons.mpr ⟨trivial, List.forall_mem_cons.mpr ⟨trivial, List.forall_mem_cons.mpr ⟨⟨_, _, _, rfl, by decide, zm_f3.1, zm_f3.2.1, zm_f3.2.2, Or.inl ⟨_, zw_84, Or.inl rfl⟩⟩, List.forall_mem_cons.mpr ⟨trivial, fun _ h => absurd h List.not_mem_nil⟩⟩⟩⟩⟩⟩
set_option maxRecDepth 100000 in
theorem zq_58 : ∀ e ∈ zm_c58, zm_okq 58 e.2 := List.forall_mem_cons.mpr ⟨trivial, List.forall_mem_cons.mpr ⟨trivial, List.forall_mem_cons.mpr ⟨⟨_, _, _, rfl, by decide, zm_f7.1, zm_f7.2.1, zm_f7.2.2, Or.inl ⟨_, zw_365, Or.inl rfl⟩⟩, List.forall_mem_cons.mpr ⟨trivial, List.forall_mem_cons.mpr ⟨trivial, List.forall_mem_cons.mpr ⟨trivial, List.forall_mem_cons.mpr ⟨trivial, List.forall_mem_cons.mpr ⟨trivial, List.forall_mem_cons.mpr ⟨trivial, List.forall_mem_cons.mpr ⟨trivial, List.forall_mem_cons.mpr ⟨trivial, List.forall_mem_cons.mpr ⟨trivial, List.forall_mem_cons.mpr ⟨⟨_, _, _, rfl, by decide, zm_f7.1, zm_f7.2.1, zm_f7.2.2, Or.inl ⟨_, zw_367, Or.inl rfl⟩⟩, List.forall_mem_cons.mpr ⟨trivial, List.forall_mem_cons.mpr ⟨trivial, List.forall_mem_cons.mpr ⟨trivial, List.forall_mem_cons.mpr ⟨trivial, List.forall_mem_cons.mpr ⟨trivial, List.forall_mem_cons.mpr ⟨trivial, List.forall_mem_cons.mpr ⟨trivial, List.forall_mem_cons.mpr ⟨trivial, List.forall_mem_cons.mpr ⟨⟨_, _, _, rfl, by decide, zm_f0.1, zm_f0.2.1, zm_f0.2.2, Or.inl ⟨_, zw_154, Or.inl rfl⟩⟩, List.forall_mem_cons.mpr ⟨trivial, List.forall_mem_cons.mpr ⟨⟨_, _, _, rfl, by decide, zm_f7.1, zm_f7.2.1, zm_f7.2.2, Or.inl ⟨_, zw_361, Or.inl rfl⟩⟩, List.forall_mem_cons.mpr ⟨trivial, List.forall_mem_cons.mpr ⟨trivial, List.forall_mem_cons.mpr ⟨trivial, List.forall_mem_cons.mpr ⟨trivial, List.forall_mem_cons.mpr ⟨trivial, fun _ h => absurd h List.not_mem_nil⟩⟩⟩⟩⟩⟩⟩⟩⟩⟩⟩⟩⟩⟩⟩⟩⟩⟩⟩⟩⟩⟩⟩⟩⟩⟩⟩⟩⟩
set_option maxRecDepth 100000 in
theorem zq_59 : ∀ e ∈ zm_c59, zm_okq 59 e.2 := List.forall_mem_cons.mpr ⟨trivial, List.forall_mem_cons.mpr ⟨trivial, List.forall_mem_cons.mpr ⟨trivial, List.forall_mem_cons.mpr ⟨trivial, List.forall_mem_cons.mpr ⟨trivial, List.forall_mem_cons.mpr ⟨trivial, List.forall_mem_cons.mpr ⟨trivial, List.forall_mem_cons.mpr ⟨trivial, List.forall_mem_cons.mpr ⟨trivial, List.forall_mem_cons.mpr ⟨trivial, List.forall_mem_cons.mpr ⟨trivial, List.forall_mem_cons.mpr ⟨trivial, List.forall_mem_cons.mpr ⟨trivial, List.forall_mem_cons.mpr ⟨trivial, List.forall_mem_cons.mpr ⟨trivial, List.forall_mem_cons.mpr ⟨trivial, List.forall_mem_cons.mpr ⟨trivial, List.forall_mem_cons.mpr ⟨trivial, List.forall_mem_cons.mpr ⟨trivial, List.forall_mem_cons.mpr ⟨trivial, List.forall_mem_cons.mpr ⟨trivial, List.forall_mem_cons.mpr ⟨trivial, List.forall_mem_cons.mpr ⟨trivial, List.forall_mem_cons.mpr ⟨trivial, List.forall_mem_cons.mpr ⟨trivial, List.forall_mem_cons.mpr ⟨trivial, List.forall_mem_cons.mpr ⟨trivial, List.forall_mem_cons.mpr ⟨trivial, List.forall_mem_cons.mpr ⟨trivial, List.forall_mem_cons.mpr ⟨trivial, List.forall_mem_cons.mpr ⟨trivial, List.forall_mem_cons.mpr ⟨trivial, List.forall_mem_cons.mpr ⟨trivial, List.forall_mem_cons.mpr ⟨trivial, List.forall_mem_cons.mpr ⟨trivial, List.forall_mem_cons.mpr ⟨trivial, List.forall_mem_cons.mpr ⟨trivial, List.forall_mem_cons.mpr ⟨trivial, fun _ h => absurd h List.not_mem_nil⟩⟩⟩⟩⟩⟩⟩⟩⟩⟩⟩⟩⟩⟩⟩⟩⟩⟩⟩⟩⟩⟩⟩⟩⟩⟩⟩⟩⟩⟩⟩⟩⟩⟩⟩⟩⟩⟩
set_option maxRecDepth 100000 in
theorem zq_60 : ∀ e ∈ zm_c60, zm_okq 60 e.2 := List.forall_mem_cons.mpr ⟨trivial, List.forall_mem_cons.mpr ⟨trivial, List.forall_mem_cons.mpr ⟨trivial, List.forall_mem_cons.mpr ⟨trivial, fun _ h => absurd h List.not_mem_nil⟩⟩⟩⟩
set_option maxRecDepth 100000 in
theorem zq_61 : ∀ e ∈ zm_c61, zm_okq 61 e.2 := List.forall_mem_cons.mpr ⟨trivial, List.forall_mem_cons.mpr ⟨trivial, List.forall_mem_cons.mpr ⟨trivial, List.forall_mem_cons.mpr ⟨trivial, List.forall_mem_cons.mpr ⟨trivial, List.forall_mem_cons.mpr ⟨trivial, List.forall_mem_cons.mpr ⟨trivial, List.forall_mem_cons.mpr ⟨trivial, List.forall_mem_cons.mpr ⟨trivial, List.forall_mem_cons.mpr ⟨trivial, List.forall_mem_cons.mpr ⟨trivial, List.forall_mem_cons.mpr ⟨trivial, List.forall_mem_cons.mpr ⟨trivial, List.forall_mem_cons.mpr ⟨trivial, List.forall_mem_cons.mpr ⟨trivial, fun _ h => absurd h List.not_mem_nil⟩⟩⟩⟩⟩⟩⟩⟩⟩⟩⟩⟩⟩⟩⟩
set_option maxRecDepth 100000 in
theorem zq_62 : ∀ e ∈ zm_c62, zm_okq 62 e.2 := List.forall_mem_cons.mpr ⟨trivial, List.forall_mem_cons.mpr ⟨⟨_, _, _, rfl, by decide, zm_f0.1, zm_f0.2.1, zm_f0.2.2, Or.inl ⟨_, zw_156, Or.inl rfl⟩⟩, List.forall_mem_cons.mpr ⟨trivial, List.forall_mem_cons.mpr ⟨trivial, List.forall_mem_cons.mpr ⟨⟨_, _, _, rfl, by decide, zm_f0.1, zm_f0.2.1, zm_f0.2.2, Or.inl ⟨_, zw_156, Or.inl rfl⟩⟩, List.forall_mem_cons.mpr ⟨trivial, List.forall_mem_cons.mpr ⟨trivial, fun _ h => absurd h List.not_mem_nil⟩⟩⟩⟩⟩⟩⟩
set_option maxRecDepth 100000 in
theorem zq_63 : ∀ e ∈ zm_c63, zm_okq 63 e.2 := List.forall_mem_cons.mpr ⟨trivial, List.forall_mem_cons.mpr ⟨trivial, List.forall_mem_cons.mpr ⟨trivial, List.forall_mem_cons.mpr ⟨trivial, List.forall_mem_cons.mpr ⟨trivial, List.forall_mem_cons.mpr ⟨trivial, List.forall_mem_cons.mpr ⟨trivial, List.forall_mem_cons.mpr ⟨trivial, List.forall_mem_cons.mpr ⟨trivial, List.forall_mem_cons.mpr ⟨trivial, List.forall_mem_cons.mpr ⟨trivial, List.forall_mem_cons.mpr ⟨trivial, List.forall_mem_cons.mpr ⟨trivial, List.forall_mem_cons.mpr ⟨trivial, List.forall_mem_cons.mpr ⟨trivial, List.forall_mem_cons.mpr ⟨trivial, List.forall_mem_cons.mpr ⟨trivial, List.forall_mem_cons.mpr ⟨trivial, List.forall_mem_cons.mpr ⟨trivial, List.forall_mem_cons.mpr ⟨trivial, List.forall_mem_cons.mpr ⟨trivial, fun _ h => absurd h List.not_mem_nil⟩⟩⟩⟩⟩⟩⟩⟩⟩⟩⟩⟩⟩⟩⟩⟩⟩⟩⟩⟩⟩
set_option maxRecDepth 100000 in
theorem zq_64 : ∀ e ∈ zm_c64, zm_okq 64 e.2 := List.forall_mem_cons.mpr ⟨trivial, List.forall_mem_cons.mpr ⟨trivial, List.forall_mem_cons.mpr ⟨trivial, List.forall_mem_cons.mpr ⟨trivial, List.forall_mem_cons.mpr ⟨trivial, List.forall_mem_cons.mpr ⟨⟨_, _, _, rfl, by decide, zm_f3.1, zm_f3.2.1, zm_f3.2.2, Or.inl ⟨_, zw_86, Or.inl rfl⟩⟩, List.forall_mem_cons.mpr ⟨trivial, List.forall_mem_cons.mpr ⟨trivial, List.forall_mem_cons.mpr ⟨trivial, List.forall_mem_cons.mpr ⟨trivial, List.forall_mem_cons.mpr ⟨trivial, List.forall_mem_cons.mpr ⟨trivial, List.forall_mem_cons.mpr ⟨⟨⟨_, _, _, rfl, by decide, zm_f0.1, zm_f0.2.1, zm_f0.2.2, Or.inl ⟨_, zw_156, Or.inl rfl⟩⟩, zm_okw_n rfl rfl⟩, List.forall_mem_cons.mpr ⟨trivial, List.forall_mem_cons.mpr ⟨trivial, fun _ h => absurd h List.not_mem_nil⟩⟩⟩⟩⟩⟩⟩⟩⟩⟩⟩⟩⟩⟩⟩
set_option maxRecDepth 100000 in
theorem zq_65 : ∀ e ∈ zm_c65, zm_okq 65 e.2 := List.forall_mem_cons.mpr ⟨trivial, List.forall_mem_cons.mpr ⟨⟨_, _, _, rfl, by decide, zm_f0.1, zm_f0.2.1, zm_f0.2.2, Or.inl ⟨_, zw_156, Or.inl rfl⟩⟩, List.forall_mem_cons.mpr ⟨trivial, List.forall_mem_cons.mpr ⟨trivial, List.forall_mem_cons.mpr ⟨trivial, List.forall_mem_cons.mpr ⟨⟨⟨_, _, _, rfl, by decide, zm_f0.1, zm_f0.2.1, zm_f0.2.2, Or.inl ⟨_, zw_156, Or.inl rfl⟩⟩, zm_okw_n rfl rfl⟩, List.forall_mem_cons.mpr ⟨trivial, List.forall_mem_cons.mpr ⟨trivial, List.forall_mem_cons.mpr ⟨trivial, List.forall_mem_cons.mpr ⟨trivial, List.forall_mem_cons.mpr ⟨trivial, fun _ h => absurd h List.not_mem_nil⟩⟩⟩⟩⟩⟩⟩⟩⟩⟩⟩
set_option maxRecDepth 100000 in
theorem zq_66 : ∀ e ∈ zm_c66, zm_okq 66 e.2 := List.forall_mem_cons.mpr ⟨trivial, List.forall_mem_cons.mpr ⟨trivial, List.forall_mem_cons.mpr ⟨trivial, List.forall_mem_cons.mpr ⟨trivial, List.forall_mem_cons.mpr ⟨trivial, List.forall_mem_cons.mpr ⟨trivial, List.forall_mem_cons.mpr ⟨trivial, List.forall_mem_cons.mpr ⟨trivial, List.forall_mem_cons.mpr ⟨trivial, List.forall_mem_cons.mpr ⟨trivial, List.forall_mem_cons.mpr ⟨trivial, List.forall_mem_cons.mpr ⟨trivial, List.forall_mem_cons.mpr ⟨trivial, List.forall_mem_cons.mpr ⟨trivial, List.forall_mem_cons.mpr ⟨trivial, List.forall_mem_cons.mpr ⟨trivial, List.forall_mem_cons.mpr ⟨trivial, List.forall_mem_cons.mpr ⟨trivial, List.forall_mem_cons.mpr ⟨trivial, List.forall_mem_cons.mpr ⟨trivial, List.forall_mem_cons.mpr ⟨trivial, fun _ h => absurd h List.not_mem_nil⟩⟩⟩⟩⟩⟩⟩⟩⟩⟩⟩⟩⟩⟩⟩⟩⟩⟩⟩⟩⟩
set_option maxRecDepth 100000 in
theorem zq_67 : ∀ e ∈ zm_c67, zm_okq 67 e.2 := List.forall_mem_cons.mpr ⟨trivial, List.forall_mem_cons.mpr ⟨trivial, List.forall_mem_cons.mpr ⟨trivial, List.forall_mem_cons.mpr ⟨trivial, List.forall_mem_cons.mpr ⟨trivial, List.forall_mem_cons.mpr ⟨trivial, List.forall_mem_cons.mpr ⟨⟨_, _, _, rfl, by decide, zm_f3.1, zm_f3.2.1, zm_f3.2.2, Or.inl ⟨_, zw_88, Or.inl rfl⟩⟩, List.forall_mem_cons.mpr ⟨trivial, List.forall_mem_cons.mpr ⟨trivial, List.forall_mem_cons.mpr ⟨⟨⟨_, _, _, rfl, by decide, zm_f0.1, zm_f0.2.1, zm_f0.2.2, Or.inl ⟨_, zw_156, Or.inl rfl⟩⟩, zm_okw_n rfl rfl⟩, List.forall_mem_cons.mpr ⟨trivial, List.forall_mem_cons.mpr ⟨⟨_, _, _, rfl, by decide, zm_f0.1, zm_f0.2.1, zm_f0.2.2, Or.inl ⟨_, zw_156, Or.inl rfl⟩⟩, List.forall_mem_cons.mpr ⟨⟨_, _, _, rfl, by decide, zm_f3.1, zm_f3.2.1, zm_f3.2.2, Or.inl ⟨_, zw_82, Or.inl rfl⟩⟩, List.forall_mem_cons.mpr ⟨trivial, fun _ h => absurd h List.not_mem_nil⟩⟩⟩⟩⟩⟩⟩⟩⟩⟩⟩⟩⟩⟩
set_option maxRecDepth 100000 in
theorem zq_68 : ∀ e ∈ zm_c68, zm_okq 68 e.2 := List.forall_mem_cons.mpr ⟨trivial, List.forall_mem_cons.mpr ⟨trivial, List.forall_mem_cons.mpr ⟨trivial, List.forall_mem_cons.mpr ⟨trivial, List.forall_mem_cons.mpr ⟨trivial, List.forall_mem_cons.mpr ⟨trivial, List.forall_mem_cons.mpr ⟨trivial, List.forall_mem_cons.mpr ⟨trivial, List.forall_mem_cons.mpr ⟨trivial, List.forall_mem_cons.mpr ⟨trivial, List.forall_mem_cons.mpr ⟨trivial, List.forall_mem_cons.mpr ⟨trivial, fun _ h => absurd h List.not_mem_nil⟩⟩⟩⟩⟩⟩⟩⟩⟩⟩⟩⟩
set_option maxRecDepth 100000 in
theorem zq_69 : ∀ e ∈ zm_c69, zm_okq 69 e.2 := List.forall_mem_cons.mpr ⟨trivial, List.forall_mem_cons.mpr ⟨trivial, List.forall_mem_cons.mpr ⟨trivial, List.forall_mem_cons.mpr ⟨trivial, List.forall_mem_cons.mpr ⟨trivial, List.forall_mem_cons.mpr ⟨trivial, List.forall_mem_cons.mpr ⟨trivial, List.forall_mem_cons.mpr ⟨trivial, List.forall_mem_cons.mpr ⟨trivial, List.forall_mem_cons.mpr ⟨trivial, List.forall_mem_cons.mpr ⟨⟨_, _, _, rfl, by decide, zm_f0.1, zm_f0.2.1, zm_f0.2.2, Or.inl ⟨_, zw_155, Or.inl rfl⟩⟩, List.forall_mem_cons.mpr ⟨trivial, List.forall_mem_cons.mpr ⟨trivial, List.forall_mem_cons.mpr ⟨trivial, List.forall_mem_cons.mpr ⟨trivial, fun _ h => absurd h List.not_mem_nil⟩⟩⟩⟩⟩⟩⟩⟩⟩⟩⟩⟩⟩⟩⟩
set_option maxRecDepth 100000 in
theorem zq_70 : ∀ e ∈ zm_c70, zm_okq 70 e.2 := List.forall_mem_cons.mpr ⟨trivial, List.forall_mem_cons.mpr ⟨trivial, List.forall_mem_cons.mpr ⟨trivial, List.forall_mem_cons.mpr ⟨trivial, List.forall_mem_cons.mpr ⟨⟨_, rfl, rfl, zw_853⟩, List.forall_mem_cons.mpr ⟨⟨⟨_, _, _, rfl, by decide, zm_f5.1, zm_f5.2.1, zm_f5.2.2, Or.inl ⟨_, zw_720, Or.inl rfl⟩⟩, zm_okw_f rfl rfl rfl zw_720⟩, List.forall_mem_cons.mpr ⟨trivial, List.forall_mem_cons.mpr ⟨trivial, List.forall_mem_cons.mpr ⟨⟨_, rfl, rfl, zw_853⟩, List.forall_mem_cons.mpr ⟨⟨⟨_, _, _, rfl, by decide, zm_f5.1, zm_f5.2.1, zm_f5.2.2, Or.inl ⟨_, zw_721, Or.inl rfl⟩⟩, zm_okw_f rfl rfl rfl zw_721⟩, List.forall_mem_cons.mpr ⟨trivial, List.forall_mem_cons.mpr ⟨trivial, List.forall_mem_cons.mpr ⟨⟨_, rfl, rfl, zw_853⟩, List.forall_mem_cons.mpr ⟨⟨⟨_, _, _, rfl, by decide, zm_f5.1, zm_f5.2.1, zm_f5.2.2, Or.inl ⟨_, zw_722, Or.inl rfl⟩⟩, zm_okw_f rfl rfl rfl zw_722⟩, List.forall_mem_cons.mpr ⟨trivial, List.forall_mem_cons.mpr ⟨trivial, List.forall_mem_cons.mpr ⟨⟨_, rfl, rfl, zw_853⟩, List.forall_mem_cons.mpr ⟨⟨⟨_, _, _, rfl, by decide, zm_f5.1, zm_f5.2.1, zm_f5.2.2, Or.inl ⟨_, zw_723, Or.inl rfl⟩⟩, zm_okw_f rfl rfl rfl zw_723⟩, List.forall_mem_cons.mpr ⟨trivial, List.forall_mem_cons.mpr ⟨trivial, List.forall_mem_cons.mpr ⟨⟨_, rfl, rfl, zw_853⟩, List.forall_mem_cons.mpr ⟨⟨⟨_, _, _, rfl, by decide, zm_f5.1, zm_f5.2.1, zm_f5.2.2, Or.inl ⟨_, zw_724, Or.inl rfl⟩⟩, zm_okw_f rfl rfl rfl zw_724⟩, List.forall_mem_cons.mpr ⟨trivial, List.forall_mem_cons.mpr ⟨trivial, List.forall_mem_cons.mpr ⟨⟨_, rfl, rfl, zw_853⟩, List.forall_mem_cons.mpr ⟨⟨⟨_, _, _, rfl, by decide, zm_f5.1, zm_f5.2.1, zm_f5.2.2, Or.inl ⟨_, zw_725, Or.inl rfl⟩⟩, zm_okw_f rfl rfl rfl zw_725⟩, List.forall_mem_cons.mpr ⟨trivial, List.forall_mem_cons.mpr ⟨trivial, List.forall_mem_cons.mpr ⟨⟨_, rfl, rfl, zw_853⟩, List.forall_mem_cons.mpr ⟨⟨⟨_, _, _, rfl, by decide, zm_f5.1, zm_f5.2.1, zm_f5.2.2, Or.inl ⟨_, zw_726, Or.inl rfl⟩⟩, zm_okw_f rfl rfl rfl zw_726⟩, List.forall_mem_cons.mpr ⟨trivial, List.forall_mem_cons.mpr ⟨trivial, List.forall_mem_cons.mpr ⟨⟨_, rfl, rfl, zw_854⟩, List.forall_mem_cons.mpr ⟨⟨⟨_, _, _, rfl, by decide, zm_f5.1, zm_f5.2.1, zm_f5.2.2, Or.inl ⟨_, zw_727, Or.inl rfl⟩⟩, zm_okw_f rfl rfl rfl zw_727⟩, List.forall_mem_cons.mpr ⟨trivial, List.forall_mem_cons.mpr ⟨trivial, List.forall_mem_cons.mpr ⟨⟨⟨_, _, _, rfl, by decide, zm_f5.1, zm_f5.2.1, zm_f5.2.2, Or.inl ⟨_, zw_729, Or.inl rfl⟩⟩, zm_okw_n rfl rfl⟩, List.forall_mem_cons.mpr ⟨trivial, List.forall_mem_cons.mpr ⟨trivial, List.forall_mem_cons.mpr ⟨⟨_, rfl, rfl, zw_853⟩, List.forall_mem_cons.mpr ⟨⟨⟨_, _, _, rfl, by decide, zm_f5.1, zm_f5.2.1, zm_f5.2.2, Or.inl ⟨_, zw_733, Or.inl rfl⟩⟩, zm_okw_f rfl rfl rfl zw_733⟩, List.forall_mem_cons.mpr ⟨trivial, List.forall_mem_cons.mpr ⟨trivial, List.forall_mem_cons.mpr ⟨⟨_, rfl, rfl, zw_853⟩, List.forall_mem_cons.mpr ⟨⟨⟨_, _, _, rfl, by decide, zm_f5.1, zm_f5.2.1, zm_f5.2.2, Or.inl ⟨_, zw_734, Or.inl rfl⟩⟩, zm_okw_f rfl rfl rfl zw_734⟩, List.forall_mem_cons.mpr ⟨trivial, List.forall_mem_cons.mpr ⟨trivial, List.forall_mem_cons.mpr ⟨⟨_, rfl, rfl, zw_853⟩, List.forall_mem_cons.mpr ⟨⟨⟨_, _, _, rfl, by decide, zm_f5.1, zm_f5.2.1, zm_f5.2.2, Or.inl ⟨_, zw_735, Or.inl rfl⟩⟩, zm_okw_f rfl rfl rfl zw_735⟩, List.forall_mem_cons.mpr ⟨trivial, List.forall_mem_cons.mpr ⟨trivial, List.forall_mem_cons.mpr ⟨⟨_, rfl, rfl, zw_853⟩, List.forall_mem_cons.mpr ⟨⟨⟨_, _, _, rfl, by decide, zm_f5.1, zm_f5.2.1, zm_f5.2.2, Or.inl ⟨_, zw_736, Or.inl rfl⟩⟩, zm_okw_f rfl rfl rfl zw_736⟩, List.forall_mem_cons.mpr ⟨trivial, List.forall_mem_cons.mpr ⟨trivial, List.forall_mem_cons.mpr ⟨⟨_, rfl, rfl, zw_853⟩, List.forall_mem_cons.mpr ⟨⟨⟨_, _, _, rfl, by decide, zm_f5.1, zm_f5.2.1, zm_f5.2.2, Or.inl ⟨_, zw_737, Or.inl rfl⟩⟩, zm_okw_f rfl rfl rfl zw_737⟩, List.forall_mem_cons.mpr ⟨trivial, List.forall_mem_cons.mpr ⟨trivial, List.forall_mem_cons.mpr ⟨⟨_, rfl, rfl, zw_853⟩, List.forall_mem_cons.mpr ⟨⟨⟨_, _, _, rfl, by decide, zm_f5.1, zm_f5.2.1, zm_f5.2.2, Or.inl ⟨_, zw_738, Or.inl rfl⟩⟩, zm_okw_f rfl rfl rfl zw_738⟩, List.forall_mem_cons.mpr ⟨trivial, List.forall_mem_cons.mpr ⟨trivial, List.forall_mem_cons.mpr ⟨⟨_, rfl, rfl, zw_853⟩, List.forall_mem_cons.mpr ⟨⟨⟨_, _, _, rfl, by decide, zm_f5.1, zm_f5.2.1, zm_f5.2.2, Or.inl ⟨_, zw_739, Or.inl rfl⟩⟩, zm_okw_f rfl rfl rfl zw_739⟩, List.forall_mem_cons.mpr ⟨trivial, List.forall_mem_cons.mpr ⟨trivial, List.forall_mem_cons.mpr ⟨⟨_, rfl, rfl, zw_853⟩, List.forall_mem_cons.mpr ⟨⟨⟨_, _, _, rfl, by decide, zm_f5.1, zm_f5.2.1, zm_f5.2.2, Or.inl ⟨_, zw_740, Or.inl rfl⟩⟩, zm_okw_f rfl rfl rfl zw_740⟩, List.forall_mem_cons.mpr ⟨trivial, List.forall_mem_cons.mpr ⟨trivial, List.forall_mem_cons.mpr ⟨⟨_, rfl, rfl, zw_853⟩, List.forall_mem_cons.mpr ⟨⟨⟨_, _, _, rfl, by decide, zm_f5.1, zm_f5.2.1, zm_f5.2.2, Or.inl ⟨_, zw_741, Or.inl rfl⟩⟩, zm_okw_f rfl rfl rfl zw_741⟩, List.forall_mem_cons.mpr ⟨trivial, List.forall_mem_cons.mpr ⟨trivial, List.forall_mem_cons.mpr ⟨⟨_, rfl, rfl, zw_853⟩, List.forall_mem_cons.mpr ⟨⟨⟨_, _, _, rfl, by decide, zm_f5.1, zm_f5.2.1, zm_f5.2.2, Or.inl ⟨_, zw_742, Or.inl rfl⟩⟩, zm_okw_f rfl rfl rfl zw_742⟩, List.forall_mem_cons.mpr ⟨trivial, List.forall_mem_cons.mpr ⟨trivial, List.forall_mem_cons.mpr ⟨⟨_, rfl, rfl, zw_853⟩, List.forall_mem_cons.mpr ⟨⟨⟨_, _, _, rfl, by decide, zm_f5.1, zm_f5.2.1, zm_f5.2.2, Or.inl ⟨_, zw_746, Or.inl rfl⟩⟩, zm_okw_f rfl rfl rfl zw_746⟩, List.forall_mem_cons.mpr ⟨trivial, List.forall_mem_cons.mpr ⟨trivial, List.forall_mem_cons.mpr ⟨⟨_, rfl, rfl, zw_853⟩, List.forall_mem_cons.mpr ⟨⟨⟨_, _, _, rfl, by decide, zm_f5.1, zm_f5.2.1, zm_f5.2.2, Or.inl ⟨_, zw_747, Or.inl rfl⟩⟩, zm_okw_f rfl rfl rfl zw_747⟩, List.forall_mem_cons.mpr ⟨trivial, List.forall_mem_cons.mpr ⟨trivial, List.forall_mem_cons.mpr ⟨⟨_, rfl, rfl, zw_853⟩, List.forall_mem_cons.mpr ⟨⟨⟨_, _, _, rfl, by decide, zm_f5.1, zm_f5.2.1, zm_f5.2.2, Or.inl ⟨_, zw_748, Or.inl rfl⟩⟩, zm_okw_f rfl rfl rfl zw_748⟩, List.forall_mem_cons.mpr ⟨trivial, List.forall_mem_cons.mpr ⟨trivial, List.forall_mem_cons.mpr ⟨⟨_, rfl, rfl, zw_853⟩, List.forall_mem_cons.mpr ⟨⟨⟨_, _, _, rfl, by decide, zm_f5.1, zm_f5.2.1, zm_f5.2.2, Or.inl ⟨_, zw_749, Or.inl rfl⟩⟩, zm_okw_f rfl rfl rfl zw_749⟩, List.forall_mem_cons.mpr ⟨trivial, List.forall_mem_cons.mpr ⟨trivial, List.forall_mem_cons.mpr ⟨⟨_, rfl, rfl, zw_853⟩, List.forall_mem_cons.mpr ⟨⟨⟨_, _, _, rfl, by decide, zm_f5.1, zm_f5.2.1, zm_f5.2.2, Or.inl ⟨_, zw_750, Or.inl rfl⟩⟩, zm_okw_f rfl rfl rfl zw_750⟩, List.forall_mem_cons.mpr ⟨trivial, fun _ h => absurd h List.not_mem_nil⟩⟩⟩⟩⟩⟩⟩⟩⟩⟩⟩⟩⟩⟩⟩⟩⟩⟩⟩⟩⟩⟩⟩⟩⟩⟩⟩⟩⟩⟩⟩⟩⟩⟩⟩⟩⟩⟩⟩⟩⟩⟩⟩⟩⟩⟩⟩⟩⟩⟩⟩⟩⟩⟩⟩⟩⟩⟩⟩⟩⟩⟩⟩⟩⟩⟩⟩⟩⟩⟩⟩⟩⟩⟩⟩⟩⟩⟩⟩⟩⟩⟩⟩⟩⟩⟩⟩⟩⟩⟩⟩⟩⟩⟩⟩⟩⟩⟩
set_option maxRecDepth 100000 in
theorem zq_71 : ∀ e ∈ zm_c71, zm_okq 71 e.2 := List.forall_mem_cons.mpr ⟨trivial, List.forall_mem_cons.mpr ⟨⟨_, _, _, rfl, by decide, zm_f5.1, zm_f5.2.1, zm_f5.2.2, Or.inl ⟨_, zw_732, Or.inl rfl⟩⟩, List.forall_mem_cons.mpr ⟨trivial, fun _ h => absurd h List.not_mem_nil⟩⟩⟩
set_option maxRecDepth 100000 in
theorem zq_72 : ∀ e ∈ zm_c72, zm_okq 72 e.2 := List.forall_mem_cons.mpr ⟨trivial, List.forall_mem_cons.mpr ⟨trivial, List.forall_mem_cons.mpr ⟨trivial, List.forall_mem_cons.mpr ⟨trivial, List.forall_mem_cons.mpr ⟨trivial, List.forall_mem_cons.mpr ⟨trivial, List.forall_mem_cons.mpr ⟨trivial, List.forall_mem_cons.mpr ⟨trivial, List.forall_mem_cons.mpr ⟨trivial, List.forall_mem_cons.mpr ⟨trivial, List.forall_mem_cons.mpr ⟨trivial, List.forall_mem_cons.mpr ⟨trivial, List.forall_mem_cons.mpr ⟨trivial, List.forall_mem_cons.mpr ⟨trivial, List.forall_mem_cons.mpr ⟨trivial, List.forall_mem_cons.mpr ⟨trivial, List.forall_mem_cons.mpr ⟨trivial, List.forall_mem_cons.mpr ⟨trivial, List.forall_mem_cons.mpr ⟨trivial, List.forall_mem_cons.mpr ⟨trivial, List.forall_mem_cons.mpr ⟨trivial, List.forall_mem_cons.mpr ⟨trivial, List.forall_mem_cons.mpr ⟨trivial, List.forall_mem_cons.mpr ⟨trivial, List.forall_mem_cons.mpr ⟨trivial, List.forall_mem_cons.mpr ⟨trivial, List.forall_mem_cons.mpr ⟨trivial, List.forall_mem_cons.mpr ⟨trivial, List.forall_mem_cons.mpr ⟨trivial, List.forall_mem_cons.mpr ⟨trivial, List.forall_mem_cons.mpr ⟨trivial, List.forall_mem_cons.mpr ⟨trivial, List.forall_mem_cons.mpr ⟨trivial, List.forall_mem_cons.mpr ⟨trivial, List.forall_mem_cons.mpr ⟨trivial, List.forall_mem_cons.mpr ⟨trivial, List.forall_mem_cons.mpr ⟨⟨_, _, _, rfl, by decide, zm_f5.1, zm_f5.2.1, zm_f5.2.2, Or.inl ⟨_, zw_728, Or.inl rfl⟩⟩, List.forall_mem_cons.mpr ⟨trivial, List.forall_mem_cons.mpr ⟨trivial, List.forall_mem_cons.mpr ⟨trivial, List.forall_mem_cons.mpr ⟨trivial, List.forall_mem_cons.mpr ⟨trivial, List.forall_mem_cons.mpr ⟨trivial, List.forall_mem_cons.mpr ⟨trivial, List.forall_mem_cons.mpr ⟨trivial, List.forall_mem_cons.mpr ⟨trivial, List.forall_mem_cons.mpr ⟨trivial, List.forall_mem_cons.mpr ⟨trivial, List.forall_mem_cons.mpr ⟨trivial, List.forall_mem_cons.mpr ⟨trivial, List.forall_mem_cons.mpr ⟨trivial, List.forall_mem_cons.mpr ⟨trivial, List.forall_mem_cons.mpr ⟨trivial, List.forall_mem_cons.mpr ⟨trivial, List.forall_mem_cons.mpr ⟨trivial, List.forall_mem_cons.mpr ⟨trivial, List.forall_mem_cons.mpr ⟨trivial, List.forall_mem_cons.mpr ⟨trivial, List.forall_mem_cons.mpr ⟨trivial, List.forall_mem_cons.mpr ⟨trivial, List.forall_mem_cons.mpr ⟨⟨_, _, _, rfl, by decide, zm_f5.1, zm_f5.2.1, zm_f5.2.2, Or.inl ⟨_, zw_720, Or.inl rfl⟩⟩, List.forall_mem_cons.mpr ⟨trivial, List.forall_mem_cons.mpr ⟨⟨_, _, _, rfl, by decide, zm_f5.1, zm_f5.2.1, zm_f5.2.2, Or.inl ⟨_, zw_728, Or.inl rfl⟩⟩, List.forall_mem_cons.mpr ⟨trivial, List.forall_mem_cons.mpr ⟨trivial, List.forall_mem_cons.mpr ⟨trivial, List.forall_mem_cons.mpr ⟨trivial, List.forall_mem_cons.mpr ⟨⟨_, _, _, rfl, by decide, zm_f5.1, zm_f5.2.1, zm_f5.2.2, Or.inl ⟨_, zw_728, Or.inl rfl⟩⟩, List.forall_mem_cons.mpr ⟨trivial, List.forall_mem_cons.mpr ⟨trivial, List.forall_mem_cons.mpr ⟨⟨⟨_, _, _, rfl, by decide, zm_f5.1, zm_f5.2.1, zm_f5.2.2, Or.inl ⟨_, zw_728, Or.inl rfl⟩⟩, zm_okw_n rfl rfl⟩, List.forall_mem_cons.mpr ⟨trivial, List.forall_mem_cons.mpr ⟨trivial, List.forall_mem_cons.mpr ⟨trivial, List.forall_mem_cons.mpr ⟨⟨_, _, _, rfl, by decide, zm_f5.1, zm_f5.2.1, zm_f5.2.2, Or.inl ⟨_, zw_728, Or.inl rfl⟩⟩, List.forall_mem_cons.mpr ⟨trivial, fun _ h => absurd h List.not_mem_nil⟩⟩⟩⟩⟩⟩⟩⟩⟩⟩⟩⟩⟩⟩⟩⟩⟩⟩⟩⟩⟩⟩⟩⟩⟩⟩⟩⟩⟩⟩⟩⟩⟩⟩⟩⟩⟩⟩⟩⟩⟩⟩⟩⟩⟩⟩⟩⟩⟩⟩⟩⟩⟩⟩⟩⟩⟩⟩⟩⟩⟩⟩⟩⟩⟩⟩⟩⟩⟩⟩⟩⟩⟩⟩⟩⟩
set_option maxRecDepth 100000 in
theorem zq_73 : ∀ e ∈ zm_c73, zm_okq 73 e.2 := List.forall_mem_cons.mpr ⟨trivial, List.forall_mem_cons.mpr ⟨trivial, List.forall_mem_cons.mpr ⟨trivial, List.forall_mem_cons.mpr ⟨trivial, List.forall_mem_cons.mpr ⟨trivial, List.forall_mem_cons.mpr ⟨trivial, List.forall_mem_cons.mpr ⟨trivial, List.forall_mem_cons.mpr ⟨trivial, List.forall_mem_cons.mpr ⟨trivial, List.forall_mem_cons.mpr ⟨trivial, fun _ h => absurd h List.not_mem_nil⟩⟩⟩⟩⟩⟩⟩⟩⟩⟩
set_option maxRecDepth 100000 in
theorem zq_74 : ∀ e ∈ zm_c74, zm_okq 74 e.2 := List.forall_mem_cons.mpr ⟨trivial, List.forall_mem_cons.mpr ⟨trivial, List.forall_mem_cons.mpr ⟨trivial, List.forall_mem_cons.mpr ⟨trivial, List.forall_mem_cons.mpr ⟨trivial, List.forall_mem_cons.mpr ⟨trivial, List.forall_mem_cons.mpr ⟨⟨⟨_, _, _, rfl, by decide, zm_f5.1, zm_f5.2.1, zm_f5.2.2, Or.inl ⟨_, zw_732, Or.inl rfl⟩⟩, zm_okw_n rfl rfl⟩, List.forall_mem_cons.mpr ⟨trivial, List.forall_mem_cons.mpr ⟨trivial, List.forall_mem_cons.mpr ⟨trivial, List.forall_mem_cons.mpr ⟨trivial, List.forall_mem_cons.mpr ⟨trivial, List.forall_mem_cons.mpr ⟨trivial, fun _ h => absurd h List.not_mem_nil⟩⟩⟩⟩⟩⟩⟩⟩⟩⟩⟩⟩⟩
set_option maxRecDepth 100000 in
theorem zq_75 : ∀ e ∈ zm_c75, zm_okq 75 e.2 := List.forall_mem_cons.mpr ⟨trivial, List.forall_mem_cons.mpr ⟨trivial, List.forall_mem_cons.mpr ⟨⟨⟨_, _, _, rfl, by decide, zm_f5.1, zm_f5.2.1, zm_f5.2.2, Or.inl ⟨_, zw_732, Or.inl rfl⟩⟩, zm_okw_n rfl rfl⟩, List.forall_mem_cons.mpr ⟨trivial, List.forall_mem_cons.mpr ⟨trivial, fun _ h => absurd h List.not_mem_nil⟩⟩⟩⟩⟩
set_option maxRecDepth 100000 in
theorem zq_76 : ∀ e ∈ zm_c76, zm_okq 76 e.2 := List.forall_mem_cons.mpr ⟨trivial, List.forall_mem_cons.mpr ⟨⟨_, rfl, rfl, zw_853⟩, List.forall_mem_cons.mpr ⟨trivial, List.forall_mem_cons.mpr ⟨trivial, List.forall_mem_cons.mpr ⟨trivial, List.forall_mem_cons.mpr ⟨trivial, List.forall_mem_cons.mpr ⟨trivial, List.forall_mem_cons.mpr ⟨trivial, List.forall_mem_cons.mpr ⟨trivial, List.forall_mem_cons.mpr ⟨trivial, List.forall_mem_cons.mpr ⟨trivial, List.forall_mem_cons.mpr ⟨trivial, List.forall_mem_cons.mpr ⟨trivial, List.forall_mem_cons.mpr ⟨trivial, List.forall_mem_cons.mpr ⟨trivial, List.forall_mem_cons.mpr ⟨trivial, List.forall_mem_cons.mpr ⟨trivial, List.forall_mem_cons.mpr ⟨trivial, List.forall_mem_cons.mpr ⟨trivial, List.forall_mem_cons.mpr ⟨trivial, List.forall_mem_cons.mpr ⟨trivial, List.forall_mem_cons.mpr ⟨⟨⟨_, _, _, rfl, by decide, zm_f5.1, zm_f5.2.1, zm_f5.2.2, Or.inl ⟨_, zw_730, Or.inl rfl⟩⟩, zm_okw_n rfl rfl⟩, List.forall_mem_cons.mpr ⟨trivial, List.forall_mem_cons.mpr ⟨trivial, List.forall_mem_cons.mpr ⟨trivial, List.forall_mem_cons.mpr ⟨trivial, List.forall_mem_cons.mpr ⟨trivial, List.forall_mem_cons.mpr ⟨⟨_, _, _, rfl, by decide, zm_f5.1, zm_f5.2.1, zm_f5.2.2, Or.inl ⟨_, zw_730, Or.inl rfl⟩⟩, List.forall_mem_cons.mpr ⟨trivial, List.forall_mem_cons.mpr ⟨trivial, List.forall_mem_cons.mpr ⟨trivial, List.forall_mem_cons.mpr ⟨trivial, List.forall_mem_cons.mpr ⟨trivial, List.forall_mem_cons.mpr ⟨trivial, List.forall_mem_cons.mpr ⟨trivial, List.forall_mem_cons.mpr ⟨trivial, List.forall_mem_cons.mpr ⟨trivial, List.forall_mem_cons.mpr ⟨trivial, List.forall_mem_cons.mpr ⟨trivial, List.forall_mem_cons.mpr ⟨trivial, List.forall_mem_cons.mpr ⟨trivial, List.forall_mem_cons.mpr ⟨trivial, List.forall_mem_cons.mpr ⟨trivial, List.forall_mem_cons.mpr ⟨⟨_, _, _, rfl, by decide, zm_f5.1, zm_f5.2.1, zm_f5.2.2, Or.inl ⟨_, zw_730, Or.inl rfl⟩⟩, List.forall_mem_cons.mpr ⟨⟨⟨_, _, _, rfl, by decide, zm_f5.1, zm_f5.2.1, zm_f5.2.2, Or.inl ⟨_, zw_729, Or.inl rfl⟩⟩, zm_okw_n rfl rfl⟩, List.forall_mem_cons.mpr ⟨trivial, List.forall_mem_cons.mpr ⟨⟨_, _, _, rfl, by decide, zm_f5.1, zm_f5.2.1, zm_f5.2.2, Or.inl ⟨_, zw_728, Or.inl rfl⟩⟩, List.forall_mem_cons.mpr ⟨trivial, List.forall_mem_cons.mpr ⟨trivial, List.forall_mem_cons.mpr ⟨trivial, List.forall_mem_cons.mpr ⟨trivial, List.forall_mem_cons.mpr ⟨⟨_, _, _, rfl, by decide, zm_f5.1, zm_f5.2.1, zm_f5.2.2, Or.inl ⟨_, zw_720, Or.inl rfl⟩⟩, List.forall_mem_cons.mpr ⟨trivial, List.forall_mem_cons.mpr ⟨trivial, List.forall_mem_cons.mpr ⟨trivial, List.forall_mem_cons.mpr ⟨trivial, List.forall_mem_cons.mpr ⟨trivial, List.forall_mem_cons.mpr ⟨trivial, List.forall_mem_cons.mpr ⟨⟨_, _, _, rfl, by decide, zm_f5.1, zm_f5.2.1, zm_f5.2.2, Or.inl ⟨_, zw_723, Or.inl rfl⟩⟩, List.forall_mem_cons.mpr ⟨trivial, List.forall_mem_cons.mpr ⟨trivial, List.forall_mem_cons.mpr ⟨trivial, List.forall_mem_cons.mpr ⟨trivial, List.forall_mem_cons.mpr ⟨trivial, List.forall_mem_cons.mpr ⟨trivial, List.forall_mem_cons.mpr ⟨⟨_, _, _, rfl, by decide, zm_f5.1, zm_f5.2.1, zm_f5.2.2, Or.inl ⟨_, zw_725, Or.inl rfl⟩⟩, List.forall_mem_cons.mpr ⟨trivial, List.forall_mem_cons.mpr ⟨trivial, List.forall_mem_cons.mpr ⟨trivial, List.forall_mem_cons.mpr ⟨trivial, List.forall_mem_cons.mpr ⟨trivial, List.forall_mem_cons.mpr ⟨trivial, List.forall_mem_cons.mpr ⟨trivial, List.forall_mem_cons.mpr ⟨trivial, List.forall_mem_cons.mpr ⟨trivial, List.forall_mem_cons.mpr ⟨trivial, List.forall_mem_cons.mpr ⟨trivial, List.forall_mem_cons.mpr ⟨⟨_, _, _, rfl, by decide, zm_f5.1, zm_f5.2.1, zm_f5.2.2, Or.inl ⟨_, zw_724, Or.inl rfl⟩⟩, List.forall_mem_cons.mpr ⟨trivial, List.forall_mem_cons.mpr ⟨trivial, List.forall_mem_cons.mpr ⟨trivial, List.forall_mem_cons.mpr ⟨trivial, List.forall_mem_cons.mpr ⟨trivial, List.forall_mem_cons.mpr ⟨trivial, List.forall_mem_cons.mpr ⟨trivial, List.forall_mem_cons.mpr ⟨trivial, List.forall_mem_cons.mpr ⟨trivial, List.forall_mem_cons.mpr ⟨trivial, List.forall_mem_cons.mpr ⟨trivial, List.forall_mem_cons.mpr ⟨trivial, List.forall_mem_cons.mpr ⟨⟨_, _, _, rfl, by decide, zm_f5.1, zm_f5.2.1, zm_f5.2.2, Or.inl ⟨_, zw_727, Or.inl rfl⟩⟩, List.forall_mem_cons.mpr ⟨trivial, List.forall_mem_cons.mpr ⟨trivial, List.forall_mem_cons.mpr ⟨trivial, List.forall_mem_cons.mpr ⟨trivial, List.forall_mem_cons.mpr ⟨trivial, List.forall_mem_cons.mpr ⟨⟨⟨_, _, _, rfl, by decide, zm_f5.1, zm_f5.2.1, zm_f5.2.2, Or.inl ⟨_, zw_728, Or.inl rfl⟩⟩, zm_okw_n rfl rfl⟩, List.forall_mem_cons.mpr ⟨trivial, List.forall_mem_cons.mpr ⟨trivial, List.forall_mem_cons.mpr ⟨trivial, List.forall_mem_cons.mpr ⟨trivial, List.forall_mem_cons.mpr ⟨trivial, List.forall_mem_cons.mpr ⟨trivial, List.forall_mem_cons.mpr ⟨trivial, List.forall_mem_cons.mpr ⟨trivial, List.forall_mem_cons.mpr ⟨trivial, List.forall_mem_cons.mpr ⟨trivial, List.forall_mem_cons.mpr ⟨trivial, List.forall_mem_cons.mpr ⟨trivial, fun _ h => absurd h List.not_mem_nil⟩⟩⟩⟩⟩⟩⟩⟩⟩⟩⟩⟩⟩⟩⟩⟩⟩⟩⟩⟩⟩⟩⟩⟩⟩⟩⟩⟩⟩⟩⟩⟩⟩⟩⟩⟩⟩⟩⟩⟩⟩⟩⟩⟩⟩⟩⟩⟩⟩⟩⟩⟩⟩⟩⟩⟩⟩⟩⟩⟩⟩⟩⟩⟩⟩⟩⟩⟩⟩⟩⟩⟩⟩⟩⟩⟩⟩⟩⟩⟩⟩⟩⟩⟩⟩⟩⟩⟩⟩⟩⟩⟩⟩⟩⟩⟩⟩⟩⟩⟩⟩⟩⟩⟩⟩⟩⟩⟩⟩
set_option maxRecDepth 100000 in
theorem zq_77 : ∀ e ∈ zm_c77, zm_okq 77 e.2 := List.forall_mem_cons.mpr ⟨trivial, List.forall_mem_cons.mpr ⟨trivial, List.forall_mem_cons.mpr ⟨trivial, List.forall_mem_cons.mpr ⟨trivial, List.forall_mem_cons.mpr ⟨trivial, List.forall_mem_cons.mpr ⟨trivial, List.forall_mem_cons.mpr ⟨trivial, List.forall_mem_cons.mpr ⟨trivial, List.forall_mem_cons.mpr ⟨trivial, List.forall_mem_cons.mpr ⟨trivial, List.forall_mem_cons.mpr ⟨trivial, List.forall_mem_cons.mpr ⟨trivial, List.forall_mem_cons.mpr ⟨trivial, List.forall_mem_cons.mpr ⟨trivial, List.forall_mem_cons.mpr ⟨⟨_, _, _, rfl, by decide, zm_f5.1, zm_f5.2.1, zm_f5.2.2, Or.inl ⟨_, zw_730, Or.inl rfl⟩⟩, List.forall_mem_cons.mpr ⟨trivial, List.forall_mem_cons.mpr ⟨trivial, List.forall_mem_cons.mpr ⟨⟨⟨_, _, _, rfl, by decide, zm_f5.1, zm_f5.2.1, zm_f5.2.2, Or.inl ⟨_, zw_730, Or.inl rfl⟩⟩, zm_okw_n rfl rfl⟩, List.forall_mem_cons.mpr ⟨trivial, List.forall_mem_cons.mpr ⟨trivial, List.forall_mem_cons.mpr ⟨trivial, List.forall_mem_cons.mpr ⟨trivial, List.forall_mem_cons.mpr ⟨trivial, List.forall_mem_cons.mpr ⟨trivial, List.forall_mem_cons.mpr ⟨trivial, List.forall_mem_cons.mpr ⟨trivial, List.forall_mem_cons.mpr ⟨trivial, List.forall_mem_cons.mpr ⟨trivial, List.forall_mem_cons.mpr ⟨trivial, List.forall_mem_cons.mpr ⟨trivial, List.forall_mem_cons.mpr ⟨trivial, List.forall_mem_cons.mpr ⟨trivial, List.forall_mem_cons.mpr ⟨trivial, List.forall_mem_cons.mpr ⟨trivial, List.forall_mem_cons.mpr ⟨trivial, List.forall_mem_cons.mpr ⟨trivial, List.forall_mem_cons.mpr ⟨trivial, List.forall_mem_cons.mpr ⟨trivial, List.forall_mem_cons.mpr ⟨trivial, List.forall_mem_cons.mpr ⟨trivial, List.forall_mem_cons.mpr ⟨trivial, List.forall_mem_cons.mpr ⟨trivial, List.forall_mem_cons.mpr ⟨trivial, List.forall_mem_cons.mpr ⟨trivial, List.forall_mem_cons.mpr ⟨trivial, List.forall_mem_cons.mpr ⟨trivial, List.forall_mem_cons.mpr ⟨trivial, List.forall_mem_cons.mpr ⟨trivial, List.forall_mem_cons.mpr ⟨trivial, List.forall_mem_cons.mpr ⟨trivial, List.forall_mem_cons.mpr ⟨trivial, List.forall_mem_cons.mpr ⟨trivial, List.forall_mem_cons.mpr ⟨trivial, List.forall_mem_cons.mpr ⟨⟨_, _, _, rfl, by decide, zm_f5.1, zm_f5.2.1, zm_f5.2.2, Or.inl ⟨_, zw_730, Or.inl rfl⟩⟩, List.forall_mem_cons.mpr ⟨trivial, List.forall_mem_cons.mpr ⟨trivial, List.forall_mem_cons.mpr ⟨⟨⟨_, _, _, rfl, by decide, zm_f5.1, zm_f5.2.1, zm_f5.2.2, Or.inl ⟨_, zw_730, Or.inl rfl⟩⟩, zm_okw_n rfl rfl⟩, List.forall_mem_cons.mpr ⟨trivial, List.forall_mem_cons.mpr ⟨trivial, List.forall_mem_cons.mpr ⟨trivial, List.forall_mem_cons.mpr ⟨trivial, List.forall_mem_cons.mpr ⟨trivial, List.forall_mem_cons.mpr ⟨trivial, List.forall_mem_cons.mpr ⟨trivial, List.forall_mem_cons.mpr ⟨trivial, List.forall_mem_cons.mpr ⟨trivial, List.forall_mem_cons.mpr ⟨⟨_, _, _, rfl, by decide, zm_f5.1, zm_f5.2.1, zm_f5.2.2, Or.inl ⟨_, zw_730, Or.inl rfl⟩⟩, List.forall_mem_cons.mpr ⟨trivial, List.forall_mem_cons.mpr ⟨trivial, List.forall_mem_cons.mpr ⟨⟨⟨_, _, _, rfl, by decide, zm_f5.1, zm_f5.2.1, zm_f5.2.2, Or.inl ⟨_, zw_730, Or.inl rfl⟩⟩, zm_okw_n rfl rfl⟩, List.forall_mem_cons.mpr ⟨trivial, List.forall_mem_cons.mpr ⟨trivial, fun _ h => absurd h List.not_mem_nil⟩⟩⟩⟩⟩⟩⟩⟩⟩⟩⟩⟩⟩⟩⟩⟩⟩⟩⟩⟩⟩⟩⟩⟩⟩⟩⟩⟩⟩⟩⟩⟩⟩⟩⟩⟩⟩⟩⟩⟩⟩⟩⟩⟩⟩⟩⟩⟩⟩⟩⟩⟩⟩⟩⟩⟩⟩⟩⟩⟩⟩⟩⟩⟩⟩⟩⟩⟩⟩⟩⟩⟩
set_option maxRecDepth 100000 in
theorem zq_78 : ∀ e ∈ zm_c78, zm_okq 78 e.2 := List.forall_mem_cons.mpr ⟨trivial, List.forall_mem_cons.mpr ⟨⟨_, _, _, rfl, by decide, zm_f5.1, zm_f5.2.1, zm_f5.2.2, Or.inl ⟨_, zw_730, Or.inl rfl⟩⟩, List.forall_mem_cons.mpr ⟨trivial, List.forall_mem_cons.mpr ⟨⟨_, _, _, rfl, by decide, zm_f5.1, zm_f5.2.1, zm_f5.2.2, Or.inl ⟨_, zw_728, Or.inl rfl⟩⟩, List.forall_mem_cons.mpr ⟨trivial, List.forall_mem_cons.mpr ⟨trivial, List.forall_mem_cons.mpr ⟨⟨_, _, _, rfl, by decide, zm_f5.1, zm_f5.2.1, zm_f5.2.2, Or.inl ⟨_, zw_720, Or.inl rfl⟩⟩, List.forall_mem_cons.mpr ⟨trivial, List.forall_mem_cons.mpr ⟨⟨_, _, _, rfl, by decide, zm_f5.1, zm_f5.2.1, zm_f5.2.2, Or.inl ⟨_, zw_730, Or.inl rfl⟩⟩, List.forall_mem_cons.mpr ⟨trivial, List.forall_mem_cons.mpr ⟨trivial, List.forall_mem_cons.mpr ⟨trivial, List.forall_mem_cons.mpr ⟨trivial, fun _ h => absurd h List.not_mem_nil⟩⟩⟩⟩⟩⟩⟩⟩⟩⟩⟩⟩⟩
set_option maxRecDepth 100000 in
theorem zq_79 : ∀ e ∈ zm_c79, zm_okq 79 e.2 := List.forall_mem_cons.mpr ⟨trivial, List.forall_mem_cons.mpr ⟨trivial, List.forall_mem_cons.mpr ⟨trivial, List.forall_mem_cons.mpr ⟨⟨_, _, _, rfl, by decide, zm_f5.1, zm_f5.2.1, zm_f5.2.2, Or.inl ⟨_, zw_726, Or.inl rfl⟩⟩, List.forall_mem_cons.mpr ⟨trivial, List.forall_mem_cons.mpr ⟨trivial, List.forall_mem_cons.mpr ⟨trivial, List.forall_mem_cons.mpr ⟨trivial, List.forall_mem_cons.mpr ⟨trivial, List.forall_mem_cons.mpr ⟨trivial, List.forall_mem_cons.mpr ⟨trivial, List.forall_mem_cons.mpr ⟨trivial, List.forall_mem_cons.mpr ⟨trivial, List.forall_mem_cons.mpr ⟨trivial, List.forall_mem_cons.mpr ⟨trivial, List.forall_mem_cons.mpr ⟨trivial, List.forall_mem_cons.mpr ⟨trivial, List.forall_mem_cons.mpr ⟨trivial, List.forall_mem_cons.mpr ⟨trivial, List.forall_mem_cons.mpr ⟨trivial, List.forall_mem_cons.mpr ⟨trivial, List.forall_mem_cons.mpr ⟨trivial, List.forall_mem_cons.mpr ⟨trivial, List.forall_mem_cons.mpr ⟨trivial, List.forall_mem_cons.mpr ⟨trivial, List.forall_mem_cons.mpr ⟨trivial, List.forall_mem_cons.mpr ⟨trivial, List.forall_mem_cons.mpr ⟨trivial, List.forall_mem_cons.mpr ⟨trivial, List.forall_mem_cons.mpr ⟨trivial, List.forall_mem_cons.mpr ⟨trivial, List.forall_mem_cons.mpr ⟨trivial, List.forall_mem_cons.mpr ⟨trivial, List.forall_mem_cons.mpr ⟨trivial, List.forall_mem_cons.mpr ⟨trivial, List.forall_mem_cons.mpr ⟨trivial, List.forall_mem_cons.mpr ⟨trivial, List.forall_mem_cons.mpr ⟨trivial, List.forall_mem_cons.mpr ⟨trivial, List.forall_mem_cons.mpr ⟨⟨_, _, _, rfl, by decide, zm_f5.1, zm_f5.2.1, zm_f5.2.2, Or.inl ⟨_, zw_730, Or.inl rfl⟩⟩, List.forall_mem_cons.mpr ⟨trivial, List.forall_mem_cons.mpr ⟨trivial, List.forall_mem_cons.mpr ⟨⟨⟨_, _, _, rfl, by decide, zm_f5.1, zm_f5.2.1, zm_f5.2.2, Or.inl ⟨_, zw_730, Or.inl rfl⟩⟩, zm_okw_n rfl rfl⟩, List.forall_mem_cons.mpr ⟨trivial, List.forall_mem_cons.mpr ⟨⟨_, _, _, rfl, by decide, zm_f5.1, zm_f5.2.1, zm_f5.2.2, Or.inl ⟨_, zw_726, Or.inl rfl⟩⟩, List.forall_mem_cons.mpr ⟨trivial, List.forall_mem_cons.mpr ⟨trivial, List.forall_mem_cons.mpr ⟨trivial, List.forall_mem_cons.mpr ⟨trivial, List.forall_mem_cons.mpr ⟨trivial, List.forall_mem_cons.mpr ⟨trivial, List.forall_mem_cons.mpr ⟨trivial, List.forall_mem_cons.mpr ⟨trivial, List.forall_mem_cons.mpr ⟨trivial, List.forall_mem_cons.mpr ⟨trivial, List.forall_mem_cons.mpr ⟨⟨_, _, _, rfl, by decide, zm_f5.1, zm_f5.2.1, zm_f5.2.2, Or.inl ⟨_, zw_726, Or.inl rfl⟩⟩, List.forall_mem_cons.mpr ⟨trivial, List.forall_mem_cons.mpr ⟨trivial, List.forall_mem_cons.mpr ⟨trivial, List.forall_mem_cons.mpr ⟨trivial, List.forall_mem_cons.mpr ⟨trivial, List.forall_mem_cons.mpr ⟨trivial, List.forall_mem_cons.mpr ⟨⟨_, _, _, rfl, by decide, zm_f5.1, zm_f5.2.1, zm_f5.2.2, Or.inl ⟨_, zw_726, Or.inl rfl⟩⟩, List.forall_mem_cons.mpr ⟨trivial, List.forall_mem_cons.mpr ⟨trivial, List.forall_mem_cons.mpr ⟨trivial, List.forall_mem_cons.mpr ⟨trivial, List.forall_mem_cons.mpr ⟨trivial, List.forall_mem_cons.mpr ⟨trivial, List.forall_mem_cons.mpr ⟨trivial, List.forall_mem_cons.mpr ⟨⟨_, _, _, rfl, by decide, zm_f5.1, zm_f5.2.1, zm_f5.2.2, Or.inl ⟨_, zw_730, Or.inl rfl⟩⟩, List.forall_mem_cons.mpr ⟨trivial, List.forall_mem_cons.mpr ⟨⟨_, _, _, rfl, by decide, zm_f5.1, zm_f5.2.1, zm_f5.2.2, Or.inl ⟨_, zw_728, Or.inl rfl⟩⟩, List.forall_mem_cons.mpr ⟨trivial, List.forall_mem_cons.mpr ⟨trivial, List.forall_mem_cons.mpr ⟨trivial, List.forall_mem_cons.mpr ⟨trivial, List.forall_mem_cons.mpr ⟨trivial, fun _ h => absurd h List.not_mem_nil⟩⟩⟩⟩⟩⟩⟩⟩⟩⟩⟩⟩⟩⟩⟩⟩⟩⟩⟩⟩⟩⟩⟩⟩⟩⟩⟩⟩⟩⟩⟩⟩⟩⟩⟩⟩⟩⟩⟩⟩⟩⟩⟩⟩⟩⟩⟩⟩⟩⟩⟩⟩⟩⟩⟩⟩⟩⟩⟩⟩⟩⟩⟩⟩⟩⟩⟩⟩⟩⟩⟩⟩⟩⟩⟩⟩⟩⟩
set_option maxRecDepth 100000 in
theorem zq_80 : ∀ e ∈ zm_c80, zm_okq 80 e.2 := List.forall_mem_cons.mpr ⟨trivial, List.forall_mem_cons.mpr ⟨trivial, List.forall_mem_cons.mpr ⟨trivial, List.forall_mem_cons.mpr ⟨trivial, List.forall_mem_cons.mpr ⟨trivial, List.forall_mem_cons.mpr ⟨trivial, List.forall_mem_cons.mpr ⟨trivial, List.forall_mem_cons.mpr ⟨trivial, List.forall_mem_cons.mpr ⟨trivial, List.forall_mem_cons.mpr ⟨trivial, List.forall_mem_cons.mpr ⟨trivial, List.forall_mem_cons.mpr ⟨trivial, List.forall_mem_cons.mpr ⟨trivial, List.forall_mem_cons.mpr ⟨trivial, List.forall_mem_cons.mpr ⟨trivial, List.forall_mem_cons.mpr ⟨trivial, List.forall_mem_cons.mpr ⟨trivial, List.forall_mem_cons.mpr ⟨trivial, List.forall_mem_cons.mpr ⟨trivial, List.forall_mem_cons.mpr ⟨trivial, List.forall_mem_cons.mpr ⟨trivial, List.forall_mem_cons.mpr ⟨trivial, List.forall_mem_cons.mpr ⟨trivial, List.forall_mem_cons.mpr ⟨trivial, List.forall_mem_cons.mpr ⟨trivial, List.forall_mem_cons.mpr ⟨trivial, List.forall_mem_cons.mpr ⟨trivial, List.forall_mem_cons.mpr ⟨trivial, List.forall_mem_cons.mpr ⟨trivial, List.forall_mem_cons.mpr ⟨trivial, List.forall_mem_cons.mpr ⟨trivial, List.forall_mem_cons.mpr ⟨trivial, List.forall_mem_cons.mpr ⟨trivial, List.forall_mem_cons.mpr ⟨trivial, List.forall_mem_cons.mpr ⟨trivial, List.forall_mem_cons.mpr ⟨trivial, List.forall_mem_cons.mpr ⟨trivial, List.forall_mem_cons.mpr ⟨trivial, List.forall_mem_cons.mpr ⟨trivial, List.forall_mem_cons.mpr ⟨trivial, List.forall_mem_cons.mpr ⟨trivial, List.forall_mem_cons.mpr ⟨trivial, List.forall_mem_cons.mpr ⟨trivial, List.forall_mem_cons.mpr ⟨trivial, List.forall_mem_cons.mpr ⟨trivial, List.forall_mem_cons.mpr ⟨trivial, List.forall_mem_cons.mpr ⟨trivial, List.forall_mem_cons.mpr ⟨trivial, List.forall_mem_cons.mpr ⟨trivial, List.forall_mem_cons.mpr ⟨trivial, List.forall_mem_cons.mpr ⟨trivial, List.forall_mem_cons.mpr ⟨trivial, List.forall_mem_cons.mpr ⟨trivial, List.forall_mem_cons.mpr ⟨trivial, List.forall_mem_cons.mpr ⟨trivial, List.forall_mem_cons.mpr ⟨trivial, List.forall_mem_cons.mpr ⟨trivial, List.forall_mem_cons.mpr ⟨trivial, List.forall_mem_cons.mpr ⟨trivial, List.forall_mem_cons.mpr ⟨trivial, List.forall_mem_cons.mpr ⟨trivial, List.forall_mem_cons.mpr ⟨trivial, List.forall_mem_cons.mpr ⟨trivial, List.forall_mem_cons.mpr ⟨trivial, List.forall_mem_cons.mpr ⟨trivial, List.forall_mem_cons.mpr ⟨trivial, List.forall_mem_cons.mpr ⟨trivial, fun _ h => absurd h List.not_mem_nil⟩⟩⟩⟩⟩⟩⟩⟩⟩⟩⟩⟩⟩⟩⟩⟩⟩⟩⟩⟩⟩⟩⟩⟩⟩⟩⟩⟩⟩⟩⟩⟩⟩⟩⟩⟩⟩⟩⟩⟩⟩⟩⟩⟩⟩⟩⟩⟩⟩⟩⟩⟩⟩⟩⟩⟩⟩⟩⟩⟩⟩⟩⟩⟩⟩⟩⟩
set_option maxRecDepth 100000 in
theorem zq_81 : ∀ e ∈ zm_c81, zm_okq 81 e.2 := List.forall_mem_cons.mpr ⟨trivial, List.forall_mem_cons.mpr ⟨⟨_, _, _, rfl, by decide, zm_f5.1, zm_f5.2.1, zm_f5.2.2, Or.inl ⟨_, zw_731, Or.inl rfl⟩⟩, List.forall_mem_cons.mpr ⟨trivial, List.forall_mem_cons.mpr ⟨trivial, List.forall_mem_cons.mpr ⟨trivial, List.forall_mem_cons.mpr ⟨trivial, List.forall_mem_cons.mpr ⟨trivial, List.forall_mem_cons.mpr ⟨⟨_, _, _, rfl, by decide, zm_f5.1, zm_f5.2.1, zm_f5.2.2, Or.inl ⟨_, zw_728, Or.inl rfl⟩⟩, List.forall_mem_cons.mpr ⟨trivial, List.forall_mem_cons.mpr ⟨trivial, List.forall_mem_cons.mpr ⟨⟨_, _, _, rfl, by decide, zm_f5.1, zm_f5.2.1, zm_f5.2.2, Or.inl ⟨_, zw_721, Or.inl rfl⟩⟩, List.forall_mem_cons.mpr ⟨trivial, List.forall_mem_cons.mpr ⟨⟨_, _, _, rfl, by decide, zm_f5.1, zm_f5.2.1, zm_f5.2.2, Or.inl ⟨_, zw_731, Or.inl rfl⟩⟩, List.forall_mem_cons.mpr ⟨trivial, List.forall_mem_cons.mpr ⟨⟨_, _, _, rfl, by decide, zm_f5.1, zm_f5.2.1, zm_f5.2.2, Or.inl ⟨_, zw_720, Or.inl rfl⟩⟩, List.forall_mem_cons.mpr ⟨trivial, List.forall_mem_cons.mpr ⟨trivial, List.forall_mem_cons.mpr ⟨trivial, List.forall_mem_cons.mpr ⟨trivial, List.forall_mem_cons.mpr ⟨trivial, List.forall_mem_cons.mpr ⟨⟨_, _, _, rfl, by decide, zm_f5.1, zm_f5.2.1, zm_f5.2.2, Or.inl ⟨_, zw_731, Or.inl rfl⟩⟩, List.forall_mem_cons.mpr ⟨trivial, List.forall_mem_cons.mpr ⟨trivial, List.forall_mem_cons.mpr ⟨⟨⟨_, _, _, rfl, by decide, zm_f5.1, zm_f5.2.1, zm_f5.2.2, Or.inl ⟨_, zw_731, Or.inl rfl⟩⟩, zm_okw_n rfl rfl⟩, List.forall_mem_cons.mpr ⟨trivial, List.forall_mem_cons.mpr ⟨trivial, List.forall_mem_cons.mpr ⟨trivial, List.forall_mem_cons.mpr ⟨trivial, fun _ h => absurd h List.not_mem_nil⟩⟩⟩⟩⟩⟩⟩⟩⟩⟩⟩⟩⟩⟩⟩⟩⟩⟩⟩⟩⟩⟩⟩⟩⟩⟩⟩⟩
set_option maxRecDepth 100000 in
theorem zq_82 : ∀ e ∈ zm_c82, zm_okq 82 e.2 := List.forall_mem_cons.mpr ⟨trivial, List.forall_mem_cons.mpr ⟨trivial, List.forall_mem_cons.mpr ⟨⟨⟨_, _, _, rfl, by decide, zm_f5.1, zm_f5.2.1, zm_f5.2.2, Or.inl ⟨_, zw_730, Or.inl rfl⟩⟩, zm_okw_n rfl rfl⟩, List.forall_mem_cons.mpr ⟨trivial, List.forall_mem_cons.mpr ⟨trivial, List.forall_mem_cons.mpr ⟨trivial, List.forall_mem_cons.mpr ⟨trivial, List.forall_mem_cons.mpr ⟨trivial, List.forall_mem_cons.mpr ⟨trivial, List.forall_mem_cons.mpr ⟨trivial, List.forall_mem_cons.mpr ⟨trivial, List.forall_mem_cons.mpr ⟨⟨_, _, _, rfl, by decide, zm_f5.1, zm_f5.2.1, zm_f5.2.2, Or.inl ⟨_, zw_730, Or.inl rfl⟩⟩, List.forall_mem_cons.mpr ⟨⟨⟨_, _, _, rfl, by decide, zm_f5.1, zm_f5.2.1, zm_f5.2.2, Or.inl ⟨_, zw_729, Or.inl rfl⟩⟩, zm_okw_n rfl rfl⟩, List.forall_mem_cons.mpr ⟨trivial, List.forall_mem_cons.mpr ⟨trivial, List.forall_mem_cons.mpr ⟨trivial, List.forall_mem_cons.mpr ⟨trivial, List.forall_mem_cons.mpr ⟨trivial, List.forall_mem_cons.mpr ⟨trivial, List.forall_mem_cons.mpr ⟨⟨⟨_, _, _, rfl, by decide, zm_f5.1, zm_f5.2.1, zm_f5.2.2, Or.inl ⟨_, zw_728, Or.inl rfl⟩⟩, zm_okw_n rfl rfl⟩, List.forall_mem_cons.mpr ⟨trivial, List.forall_mem_cons.mpr ⟨trivial, List.forall_mem_cons.mpr ⟨trivial, List.forall_mem_cons.mpr ⟨trivial, List.forall_mem_cons.mpr ⟨trivial, List.forall_mem_cons.mpr ⟨trivial, List.forall_mem_cons.mpr ⟨trivial, List.forall_mem_cons.mpr ⟨trivial, List.forall_mem_cons.mpr ⟨trivial, List.forall_mem_cons.mpr ⟨trivial, List.forall_mem_cons.mpr ⟨⟨⟨_, _, _, rfl, by decide, zm_f5.1, zm_f5.2.1, zm_f5.2.2, Or.inl ⟨_, zw_728, Or.inl rfl⟩⟩, zm_okw_n rfl rfl⟩, List.forall_mem_cons.mpr ⟨trivial, List.forall_mem_cons.mpr ⟨trivial, List.forall_mem_cons.mpr ⟨⟨⟨_, _, _, rfl, by decide, zm_f5.1, zm_f5.2.1, zm_f5.2.2, Or.inl ⟨_, zw_753, Or.inl rfl⟩⟩, zm_okw_n rfl rfl⟩, List.forall_mem_cons.mpr ⟨trivial, List.forall_mem_cons.mpr ⟨trivial, List.forall_mem_cons.mpr ⟨⟨⟨_, _, _, rfl, by decide, zm_f5.1, zm_f5.2.1, zm_f5.2.2, Or.inl ⟨_, zw_752, Or.inl rfl⟩⟩, zm_okw_n rfl rfl⟩, List.forall_mem_cons.mpr ⟨trivial, List.forall_mem_cons.mpr ⟨trivial, List.forall_mem_cons.mpr ⟨trivial, List.forall_mem_cons.mpr ⟨trivial, List.forall_mem_cons.mpr ⟨trivial, List.forall_mem_cons.mpr ⟨trivial, List.forall_mem_cons.mpr ⟨trivial, fun _ h => absurd h List.not_mem_nil⟩⟩⟩⟩⟩⟩⟩⟩⟩⟩⟩⟩⟩⟩⟩⟩⟩⟩⟩⟩⟩⟩⟩⟩⟩⟩⟩⟩⟩⟩⟩⟩⟩⟩⟩⟩⟩⟩⟩⟩⟩⟩⟩⟩
set_option maxRecDepth 100000 in
theorem zq_83 : ∀ e ∈ zm_c83, zm_okq 83 e.2 := List.forall_mem_cons.mpr ⟨trivial, List.forall_mem_cons.mpr ⟨trivial, List.forall_mem_cons.mpr ⟨trivial, List.forall_mem_cons.mpr ⟨trivial, List.forall_mem_cons.mpr ⟨trivial, List.forall_mem_cons.mpr ⟨trivial, List.forall_mem_cons.mpr ⟨trivial, List.forall_mem_cons.mpr ⟨trivial, List.forall_mem_cons.mpr ⟨⟨_, _, _, rfl, by decide, zm_f5.1, zm_f5.2.1, zm_f5.2.2, Or.inl ⟨_, zw_727, Or.inl rfl⟩⟩, List.forall_mem_cons.mpr ⟨trivial, List.forall_mem_cons.mpr ⟨trivial, List.forall_mem_cons.mpr ⟨trivial, List.forall_mem_cons.mpr ⟨trivial, List.forall_mem_cons.mpr ⟨trivial, List.forall_mem_cons.mpr ⟨trivial, List.forall_mem_cons.mpr ⟨⟨_, _, _, rfl, by decide, zm_f5.1, zm_f5.2.1, zm_f5.2.2, Or.inl ⟨_, zw_723, Or.inl rfl⟩⟩, List.forall_mem_cons.mpr ⟨trivial, List.forall_mem_cons.mpr ⟨trivial, List.forall_mem_cons.mpr ⟨trivial, List.forall_mem_cons.mpr ⟨trivial, List.forall_mem_cons.mpr ⟨trivial, List.forall_mem_cons.mpr ⟨trivial, List.forall_mem_cons.mpr ⟨trivial, List.forall_mem_cons.mpr ⟨⟨_, _, _, rfl, by decide, zm_f5.1, zm_f5.2.1, zm_f5.2.2, Or.inl ⟨_, zw_723, Or.inl rfl⟩⟩, List.forall_mem_cons.mpr ⟨trivial, List.forall_mem_cons.mpr ⟨trivial, List.forall_mem_cons.mpr ⟨trivial, List.forall_mem_cons.mpr ⟨trivial, List.forall_mem_cons.mpr ⟨trivial, List.forall_mem_cons.mpr ⟨trivial, List.forall_mem_cons.mpr ⟨trivial, List.forall_mem_cons.mpr ⟨⟨_, _, _, rfl, by decide, zm_f5.1, zm_f5.2.1, zm_f5.2.2, Or.inl ⟨_, zw_722, Or.inl rfl⟩⟩, List.forall_mem_cons.mpr ⟨trivial, List.forall_mem_cons.mpr ⟨trivial, List.forall_mem_cons.mpr ⟨⟨_, _, _, rfl, by decide, zm_f5.1, zm_f5.2.1, zm_f5.2.2, Or.inl ⟨_, zw_721, Or.inl rfl⟩⟩, List.forall_mem_cons.mpr ⟨trivial, List.forall_mem_cons.mpr ⟨trivial, List.forall_mem_cons.mpr ⟨trivial, List.forall_mem_cons.mpr ⟨trivial, List.forall_mem_cons.mpr ⟨trivial, List.forall_mem_cons.mpr ⟨trivial, List.forall_mem_cons.mpr ⟨trivial, List.forall_mem_cons.mpr ⟨⟨_, _, _, rfl, by decide, zm_f5.1, zm_f5.2.1, zm_f5.2.2, Or.inl ⟨_, zw_723, Or.inl rfl⟩⟩, List.forall_mem_cons.mpr ⟨trivial, List.forall_mem_cons.mpr ⟨trivial, List.forall_mem_cons.mpr ⟨trivial, List.forall_mem_cons.mpr ⟨trivial, List.forall_mem_cons.mpr ⟨trivial, List.forall_mem_cons.mpr ⟨trivial, List.forall_mem_cons.mpr ⟨trivial, List.forall_mem_cons.mpr ⟨trivial, List.forall_mem_cons.mpr ⟨trivial, List.forall_mem_cons.mpr ⟨trivial, List.forall_mem_cons.mpr ⟨trivial, List.forall_mem_cons.mpr ⟨⟨_, _, _, rfl, by decide, zm_f5.1, zm_f5.2.1, zm_f5.2.2, Or.inl ⟨_, zw_721, Or.inl rfl⟩⟩, List.forall_mem_cons.mpr ⟨trivial, List.forall_mem_cons.mpr ⟨trivial, List.forall_mem_cons.mpr ⟨⟨_, _, _, rfl, by decide, zm_f5.1, zm_f5.2.1, zm_f5.2.2, Or.inl ⟨_, zw_722, Or.inl rfl⟩⟩, List.forall_mem_cons.mpr ⟨trivial, List.forall_mem_cons.mpr ⟨trivial, List.forall_mem_cons.mpr ⟨trivial, List.forall_mem_cons.mpr ⟨trivial, List.forall_mem_cons.mpr ⟨trivial, List.forall_mem_cons.mpr ⟨trivial, List.forall_mem_cons.mpr ⟨trivial, List.forall_mem_cons.mpr ⟨⟨⟨_, _, _, rfl, by decide, zm_f5.1, zm_f5.2.1, zm_f5.2.2, Or.inl ⟨_, zw_731, Or.inl rfl⟩⟩, zm_okw_n rfl rfl⟩, List.forall_mem_cons.mpr ⟨trivial, List.forall_mem_cons.mpr ⟨trivial, List.forall_mem_cons.mpr ⟨trivial, List.forall_mem_cons.mpr ⟨trivial, List.forall_mem_cons.mpr ⟨trivial, List.forall_mem_cons.mpr ⟨⟨⟨_, _, _, rfl, by decide, zm_f5.1, zm_f5.2.1, zm_f5.2.2, Or.inl ⟨_, zw_745, Or.inl rfl⟩⟩, zm_okw_n rfl rfl⟩, List.forall_mem_cons.mpr ⟨trivial, List.forall_mem_cons.mpr ⟨⟨⟨_, _, _, rfl, by decide, zm_f5.1, zm_f5.2.1, zm_f5.2.2, Or.inl ⟨_, zw_744, Or.inl rfl⟩⟩, zm_okw_n rfl rfl⟩, List.forall_mem_cons.mpr ⟨⟨⟨_, _, _, rfl, by decide, zm_f5.1, zm_f5.2.1, zm_f5.2.2, Or.inl ⟨_, zw_743, Or.inl rfl⟩⟩, zm_okw_n rfl rfl⟩, List.forall_mem_cons.mpr ⟨trivial, fun _ h => absurd h List.not_mem_nil⟩⟩⟩⟩⟩⟩⟩⟩⟩⟩⟩⟩⟩⟩⟩⟩⟩⟩⟩⟩⟩⟩⟩⟩⟩⟩⟩⟩⟩⟩⟩⟩⟩⟩⟩⟩⟩⟩⟩⟩⟩⟩⟩⟩⟩⟩⟩⟩⟩⟩⟩⟩⟩⟩⟩⟩⟩⟩⟩⟩⟩⟩⟩⟩⟩⟩⟩⟩⟩⟩⟩⟩⟩⟩⟩⟩
set_option maxRecDepth 100000 in
theorem zq_84 : ∀ e ∈ zm_c84, zm_okq 84 e.2 := List.forall_mem_cons.mpr ⟨trivial, List.forall_mem_cons.mpr ⟨trivial, List.forall_mem_cons.mpr ⟨trivial, List.forall_mem_cons.mpr ⟨trivial, List.forall_mem_cons.mpr ⟨trivial, List.forall_mem_cons.mpr ⟨trivial, List.forall_mem_cons.mpr ⟨trivial, List.forall_mem_cons.mpr ⟨trivial, List.forall_mem_cons.mpr ⟨⟨_, _, _, rfl, by decide, zm_f5.1, zm_f5.2.1, zm_f5.2.2, Or.inl ⟨_, zw_721, Or.inl rfl⟩⟩, List.forall_mem_cons.mpr ⟨trivial, List.forall_mem_cons.mpr ⟨trivial, List.forall_mem_cons.mpr ⟨trivial, List.forall_mem_cons.mpr ⟨trivial, List.forall_mem_cons.mpr ⟨trivial, List.forall_mem_cons.mpr ⟨trivial, List.forall_mem_cons.mpr ⟨trivial, List.forall_mem_cons.mpr ⟨trivial, List.forall_mem_cons.mpr ⟨trivial, List.forall_mem_cons.mpr ⟨trivial, List.forall_mem_cons.mpr ⟨trivial, fun _ h => absurd h List.not_mem_nil⟩⟩⟩⟩⟩⟩⟩⟩⟩⟩⟩⟩⟩⟩⟩⟩⟩⟩⟩⟩
set_option maxRecDepth 100000 in
theorem zq_85 : ∀ e ∈ zm_c85, zm_okq 85 e.2 := List.forall_mem_cons.mpr ⟨trivial, List.forall_mem_cons.mpr ⟨trivial, List.forall_mem_cons.mpr ⟨⟨⟨_, _, _, rfl, by decide, zm_f5.1, zm_f5.2.1, zm_f5.2.2, Or.inl ⟨_, zw_751, Or.inl rfl⟩⟩, zm_okw_n rfl rfl⟩, List.forall_mem_cons.mpr ⟨trivial, List.forall_mem_cons.mpr ⟨trivial, List.forall_mem_cons.mpr ⟨trivial, List.forall_mem_cons.mpr ⟨trivial, List.forall_mem_cons.mpr ⟨trivial, List.forall_mem_cons.mpr ⟨⟨_, _, _, rfl, by decide, zm_f5.1, zm_f5.2.1, zm_f5.2.2, Or.inl ⟨_, zw_751, Or.inl rfl⟩⟩, List.forall_mem_cons.mpr ⟨trivial, List.forall_mem_cons.mpr ⟨trivial, List.forall_mem_cons.mpr ⟨⟨_, _, _, rfl, by decide, zm_f5.1, zm_f5.2.1, zm_f5.2.2, Or.inl ⟨_, zw_732, Or.inl rfl⟩⟩, List.forall_mem_cons.mpr ⟨trivial, List.forall_mem_cons.mpr ⟨trivial, List.forall_mem_cons.mpr ⟨trivial, List.forall_mem_cons.mpr ⟨trivial, List.forall_mem_cons.mpr ⟨trivial, fun _ h => absurd h List.not_mem_nil⟩⟩⟩⟩⟩⟩⟩⟩⟩⟩⟩⟩⟩⟩⟩⟩⟩
set_option maxRecDepth 100000 in
theorem zq_86 : ∀ e ∈ zm_c86, zm_okq 86 e.2 := List.forall_mem_cons.mpr ⟨trivial, List.forall_mem_cons.mpr ⟨⟨_, _, _, rfl, by decide, zm_f5.1, zm_f5.2.1, zm_f5.2.2, Or.inl ⟨_, zw_751, Or.inl rfl⟩⟩, List.forall_mem_cons.mpr ⟨trivial, List.forall_mem_cons.mpr ⟨trivial, List.forall_mem_cons.mpr ⟨trivial, List.forall_mem_cons.mpr ⟨trivial, List.forall_mem_cons.mpr ⟨⟨⟨_, _, _, rfl, by decide, zm_f5.1, zm_f5.2.1, zm_f5.2.2, Or.inl ⟨_, zw_732, Or.inl rfl⟩⟩, zm_okw_n rfl rfl⟩, List.forall_mem_cons.mpr ⟨trivial, List.forall_mem_cons.mpr ⟨trivial, List.forall_mem_cons.mpr ⟨trivial, List.forall_mem_cons.mpr ⟨⟨_, _, _, rfl, by decide, zm_f5.1, zm_f5.2.1, zm_f5.2.2, Or.inl ⟨_, zw_751, Or.inl rfl⟩⟩, List.forall_mem_cons.mpr ⟨trivial, List.forall_mem_cons.mpr ⟨trivial, List.forall_mem_cons.mpr ⟨⟨⟨_, _, _, rfl, by decide, zm_f5.1, zm_f5.2.1, zm_f5.2.2, Or.inl ⟨_, zw_751, Or.inl rfl⟩⟩, zm_okw_n rfl rfl⟩, List.forall_mem_cons.mpr ⟨trivial, List.forall_mem_cons.mpr ⟨⟨_, _, _, rfl, by decide, zm_f5.1, zm_f5.2.1, zm_f5.2.2, Or.inl ⟨_, zw_751, Or.inl rfl⟩⟩, List.forall_mem_cons.mpr ⟨trivial, List.forall_mem_cons.mpr ⟨⟨_, _, _, rfl, by decide, zm_f5.1, zm_f5.2.1, zm_f5.2.2, Or.inl ⟨_, zw_752, Or.inl rfl⟩⟩, List.forall_mem_cons.mpr ⟨trivial, List.forall_mem_cons.mpr ⟨trivial, List.forall_mem_cons.mpr ⟨trivial, List.forall_mem_cons.mpr ⟨⟨_, _, _, rfl, by decide, zm_f5.1, zm_f5.2.1, zm_f5.2.2, Or.inl ⟨_, zw_751, Or.inl rfl⟩⟩, List.forall_mem_cons.mpr ⟨⟨⟨_, _, _, rfl, by decide, zm_f5.1, zm_f5.2.1, zm_f5.2.2, Or.inl ⟨_, zw_752, Or.inl rfl⟩⟩, zm_okw_n rfl rfl⟩, List.forall_mem_cons.mpr ⟨trivial, List.forall_mem_cons.mpr ⟨⟨_, _, _, rfl, by decide, zm_f5.1, zm_f5.2.1, zm_f5.2.2, Or.inl ⟨_, zw_746, Or.inl rfl⟩⟩, List.forall_mem_cons.mpr ⟨trivial, List.forall_mem_cons.mpr ⟨⟨_, _, _, rfl, by decide, zm_f5.1, zm_f5.2.1, zm_f5.2.2, Or.inl ⟨_, zw_751, Or.inl rfl⟩⟩, List.forall_mem_cons.mpr ⟨trivial, List.forall_mem_cons.mpr ⟨trivial, List.forall_mem_cons.mpr ⟨trivial, List.forall_mem_cons.mpr ⟨⟨_, _, _, rfl, by decide, zm_f5.1, zm_f5.2.1, zm_f5.2.2, Or.inl ⟨_, zw_747, Or.inl rfl⟩⟩, List.forall_mem_cons.mpr ⟨trivial, List.forall_mem_cons.mpr ⟨⟨_, _, _, rfl, by decide, zm_f5.1, zm_f5.2.1, zm_f5.2.2, Or.inl ⟨_, zw_751, Or.inl rfl⟩⟩, List.forall_mem_cons.mpr ⟨trivial, List.forall_mem_cons.mpr ⟨trivial, List.forall_mem_cons.mpr ⟨trivial, List.forall_mem_cons.mpr ⟨⟨_, _, _, rfl, by decide, zm_f5.1, zm_f5.2.1, zm_f5.2.2, Or.inl ⟨_, zw_748, Or.inl rfl⟩⟩, List.forall_mem_cons.mpr ⟨trivial, List.forall_mem_cons.mpr ⟨⟨_, _, _, rfl, by decide, zm_f5.1, zm_f5.2.1, zm_f5.2.2, Or.inl ⟨_, zw_751, Or.inl rfl⟩⟩, List.forall_mem_cons.mpr ⟨trivial, List.forall_mem_cons.mpr ⟨trivial, List.forall_mem_cons.mpr ⟨trivial, List.forall_mem_cons.mpr ⟨⟨_, _, _, rfl, by decide, zm_f5.1, zm_f5.2.1, zm_f5.2.2, Or.inl ⟨_, zw_750, Or.inl rfl⟩⟩, List.forall_mem_cons.mpr ⟨trivial, List.forall_mem_cons.mpr ⟨⟨_, _, _, rfl, by decide, zm_f5.1, zm_f5.2.1, zm_f5.2.2, Or.inl ⟨_, zw_751, Or.inl rfl⟩⟩, List.forall_mem_cons.mpr ⟨trivial, List.forall_mem_cons.mpr ⟨trivial, List.forall_mem_cons.mpr ⟨trivial, fun _ h => absurd h List.not_mem_nil⟩⟩⟩⟩⟩⟩⟩⟩⟩⟩⟩⟩⟩⟩⟩⟩⟩⟩⟩⟩⟩⟩⟩⟩⟩⟩⟩⟩⟩⟩⟩⟩⟩⟩⟩⟩⟩⟩⟩⟩⟩⟩⟩⟩⟩⟩⟩⟩
set_option maxRecDepth 100000 in
theorem zq_87 : ∀ e ∈ zm_c87, zm_okq 87 e.2 := List.forall_mem_cons.mpr ⟨trivial, List.forall_mem_cons.mpr ⟨⟨_, _, _, rfl, by decide, zm_f5.1, zm_f5.2.1, zm_f5.2.2, Or.inl ⟨_, zw_751, Or.inl rfl⟩⟩, List.forall_mem_cons.mpr ⟨trivial, List.forall_mem_cons.mpr ⟨trivial, List.forall_mem_cons.mpr ⟨⟨_, _, _, rfl, by decide, zm_f5.1, zm_f5.2.1, zm_f5.2.2, Or.inl ⟨_, zw_746, Or.inl rfl⟩⟩, List.forall_mem_cons.mpr ⟨trivial, List.forall_mem_cons.mpr ⟨trivial, List.forall_mem_cons.mpr ⟨trivial, List.forall_mem_cons.mpr ⟨trivial, List.forall_mem_cons.mpr ⟨⟨_, _, _, rfl, by decide, zm_f5.1, zm_f5.2.1, zm_f5.2.2, Or.inl ⟨_, zw_721, Or.inl rfl⟩⟩, List.forall_mem_cons.mpr ⟨trivial, List.forall_mem_cons.mpr ⟨trivial, List.forall_mem_cons.mpr ⟨trivial, List.forall_mem_cons.mpr ⟨trivial, List.forall_mem_cons.mpr ⟨⟨_, _, _, rfl, by decide, zm_f5.1, zm_f5.2.1, zm_f5.2.2, Or.inl ⟨_, zw_748, Or.inl rfl⟩⟩, List.forall_mem_cons.mpr ⟨trivial, List.forall_mem_cons.mpr ⟨trivial, List.forall_mem_cons.mpr ⟨trivial, List.forall_mem_cons.mpr ⟨trivial, List.forall_mem_cons.mpr ⟨trivial, List.forall_mem_cons.mpr ⟨trivial, List.forall_mem_cons.mpr ⟨trivial, List.forall_mem_cons.mpr ⟨trivial, List.forall_mem_cons.mpr ⟨⟨_, _, _, rfl, by decide, zm_f5.1, zm_f5.2.1, zm_f5.2.2, Or.inl ⟨_, zw_748, Or.inl rfl⟩⟩, List.forall_mem_cons.mpr ⟨trivial, List.forall_mem_cons.mpr ⟨trivial, List.forall_mem_cons.mpr ⟨trivial, List.forall_mem_cons.mpr ⟨trivial, List.forall_mem_cons.mpr ⟨trivial, List.forall_mem_cons.mpr ⟨trivial, List.forall_mem_cons.mpr ⟨⟨_, _, _, rfl, by decide, zm_f5.1, zm_f5.2.1, zm_f5.2.2, Or.inl ⟨_, zw_751, Or.inl rfl⟩⟩, List.forall_mem_cons.mpr ⟨trivial, List.forall_mem_cons.mpr ⟨trivial, List.forall_mem_cons.mpr ⟨⟨⟨_, _, _, rfl, by decide, zm_f5.1, zm_f5.2.1, zm_f5.2.2, Or.inl ⟨_, zw_751, Or.inl rfl⟩⟩, zm_okw_n rfl rfl⟩, List.forall_mem_cons.mpr ⟨trivial, List.forall_mem_cons.mpr ⟨trivial, List.forall_mem_cons.mpr ⟨⟨_, _, _, rfl, by decide, zm_f5.1, zm_f5.2.1, zm_f5.2.2, Or.inl ⟨_, zw_748, Or.inl rfl⟩⟩, List.forall_mem_cons.mpr ⟨trivial, List.forall_mem_cons.mpr ⟨trivial, List.forall_mem_cons.mpr ⟨trivial, List.forall_mem_cons.mpr ⟨trivial, List.forall_mem_cons.mpr ⟨trivial, List.forall_mem_cons.mpr ⟨trivial, List.forall_mem_cons.mpr ⟨trivial, List.forall_mem_cons.mpr ⟨trivial, List.forall_mem_cons.mpr ⟨trivial, List.forall_mem_cons.mpr ⟨trivial, List.forall_mem_cons.mpr ⟨trivial, List.forall_mem_cons.mpr ⟨trivial, List.forall_mem_cons.mpr ⟨trivial, List.forall_mem_cons.mpr ⟨trivial, List.forall_mem_cons.mpr ⟨trivial, List.forall_mem_cons.mpr ⟨trivial, List.forall_mem_cons.mpr ⟨trivial, List.forall_mem_cons.mpr ⟨trivial, List.forall_mem_cons.mpr ⟨trivial, List.forall_mem_cons.mpr ⟨trivial, List.forall_mem_cons.mpr ⟨trivial, List.forall_mem_cons.mpr ⟨trivial, List.forall_mem_cons.mpr ⟨trivial, List.forall_mem_cons.mpr ⟨trivial, List.forall_mem_cons.mpr ⟨trivial, List.forall_mem_cons.mpr ⟨trivial, List.forall_mem_cons.mpr ⟨trivial, List.forall_mem_cons.mpr ⟨trivial, List.forall_mem_cons.mpr ⟨trivial, List.forall_mem_cons.mpr ⟨trivial, List.forall_mem_cons.mpr ⟨trivial, List.forall_mem_cons.mpr ⟨trivial, List.forall_mem_cons.mpr ⟨trivial, List.forall_mem_cons.mpr ⟨trivial, List.forall_mem_cons.mpr ⟨trivial, List.forall_mem_cons.mpr ⟨trivial, List.forall_mem_cons.mpr ⟨trivial, List.forall_mem_cons.mpr ⟨trivial, List.forall_mem_cons.mpr ⟨trivial, List.forall_mem_cons.mpr ⟨⟨_, _, _, rfl, by decide, zm_f5.1, zm_f5.2.1, zm_f5.2.2, Or.inl ⟨_, zw_747, Or.inl rfl⟩⟩, List.forall_mem_cons.mpr ⟨trivial, List.forall_mem_cons.mpr ⟨trivial, List.forall_mem_cons.mpr ⟨trivial, List.forall_mem_cons.mpr ⟨trivial, List.forall_mem_cons.mpr ⟨trivial, List.forall_mem_cons.mpr ⟨trivial, List.forall_mem_cons.mpr ⟨trivial, List.forall_mem_cons.mpr ⟨trivial, List.forall_mem_cons.mpr ⟨trivial, List.forall_mem_cons.mpr ⟨trivial, List.forall_mem_cons.mpr ⟨trivial, List.forall_mem_cons.mpr ⟨trivial, List.forall_mem_cons.mpr ⟨trivial, List.forall_mem_cons.mpr ⟨trivial, List.forall_mem_cons.mpr ⟨trivial, List.forall_mem_cons.mpr ⟨trivial, List.forall_mem_cons.mpr ⟨trivial, List.forall_mem_cons.mpr ⟨trivial, List.forall_mem_cons.mpr ⟨trivial, List.forall_mem_cons.mpr ⟨trivial, List.forall_mem_cons.mpr ⟨trivial, List.forall_mem_cons.mpr ⟨trivial, List.forall_mem_cons.mpr ⟨trivial, List.forall_mem_cons.mpr ⟨trivial, List.forall_mem_cons.mpr ⟨⟨_, _, _, rfl, by decide, zm_f5.1, zm_f5.2.1, zm_f5.2.2, Or.inl ⟨_, zw_747, Or.inl rfl⟩⟩, List.forall_mem_cons.mpr ⟨trivial, List.forall_mem_cons.mpr ⟨trivial, List.forall_mem_cons.mpr ⟨trivial, List.forall_mem_cons.mpr ⟨trivial, List.forall_mem_cons.mpr ⟨trivial, List.forall_mem_cons.mpr ⟨trivial, List.forall_mem_cons.mpr ⟨trivial, List.forall_mem_cons.mpr ⟨trivial, List.forall_mem_cons.mpr ⟨trivial, List.forall_mem_cons.mpr ⟨trivial, List.forall_mem_cons.mpr ⟨trivial, List.forall_mem_cons.mpr ⟨trivial, List.forall_mem_cons.mpr ⟨trivial, List.forall_mem_cons.mpr ⟨trivial, List.forall_mem_cons.mpr ⟨⟨_, _, _, rfl, by decide, zm_f5.1, zm_f5.2.1, zm_f5.2.2, Or.inl ⟨_, zw_747, Or.inl rfl⟩⟩, List.forall_mem_cons.mpr ⟨trivial, List.forall_mem_cons.mpr ⟨trivial, List.forall_mem_cons.mpr ⟨trivial, List.forall_mem_cons.mpr ⟨trivial, List.forall_mem_cons.mpr ⟨trivial, List.forall_mem_cons.mpr ⟨trivial, List.forall_mem_cons.mpr ⟨⟨_, _, _, rfl, by decide, zm_f5.1, zm_f5.2.1, zm_f5.2.2, Or.inl ⟨_, zw_748, Or.inl rfl⟩⟩, List.forall_mem_cons.mpr ⟨trivial, List.forall_mem_cons.mpr ⟨trivial, List.forall_mem_cons.mpr ⟨trivial, List.forall_mem_cons.mpr ⟨trivial, List.forall_mem_cons.mpr ⟨trivial, List.forall_mem_cons.mpr ⟨trivial, List.forall_mem_cons.mpr ⟨trivial, List.forall_mem_cons.mpr ⟨trivial, List.forall_mem_cons.mpr ⟨⟨_, _, _, rfl, by decide, zm_f5.1, zm_f5.2.1, zm_f5.2.2, Or.inl ⟨_, zw_747, Or.inl rfl⟩⟩, List.forall_mem_cons.mpr ⟨trivial, List.forall_mem_cons.mpr ⟨trivial, List.forall_mem_cons.mpr ⟨trivial, List.forall_mem_cons.mpr ⟨trivial, fun _ h => absurd h List.not_mem_nil⟩⟩⟩⟩⟩⟩⟩⟩⟩⟩⟩⟩⟩⟩⟩⟩⟩⟩⟩⟩⟩⟩⟩⟩⟩⟩⟩⟩⟩⟩⟩⟩⟩⟩⟩⟩⟩⟩⟩⟩⟩⟩⟩⟩⟩⟩⟩⟩⟩⟩⟩⟩⟩⟩⟩⟩⟩⟩⟩⟩⟩⟩⟩⟩⟩⟩⟩⟩⟩⟩⟩⟩⟩⟩⟩⟩⟩⟩⟩⟩⟩⟩⟩⟩⟩⟩⟩⟩⟩⟩⟩⟩⟩⟩⟩⟩⟩⟩⟩⟩⟩⟩⟩⟩⟩⟩⟩⟩⟩⟩⟩⟩⟩⟩⟩⟩⟩⟩⟩⟩⟩⟩⟩⟩⟩⟩⟩⟩⟩⟩⟩⟩⟩⟩⟩⟩⟩
set_option maxRecDepth 100000 in
theorem zq_88 : ∀ e ∈ zm_c88, zm_okq 88 e.2 := List.forall_mem_cons.mpr ⟨trivial, List.forall_mem_cons.mpr ⟨⟨_, _, _, rfl, by decide, zm_f5.1, zm_f5.2.1, zm_f5.2.2, Or.inl ⟨_, zw_750, Or.inl rfl⟩⟩, List.forall_mem_cons.mpr ⟨trivial, List.forall_mem_cons.mpr ⟨⟨_, _, _, rfl, by decide, zm_f5.1, zm_f5.2.1, zm_f5.2.2, Or.inl ⟨_, zw_751, Or.inl rfl⟩⟩, List.forall_mem_cons.mpr ⟨trivial, List.forall_mem_cons.mpr ⟨trivial, List.forall_mem_cons.mpr ⟨trivial, List.forall_mem_cons.mpr ⟨⟨_, _, _, rfl, by decide, zm_f5.1, zm_f5.2.1, zm_f5.2.2, Or.inl ⟨_, zw_735, Or.inl rfl⟩⟩, List.forall_mem_cons.mpr ⟨trivial, List.forall_mem_cons.mpr ⟨trivial, List.forall_mem_cons.mpr ⟨trivial, List.forall_mem_cons.mpr ⟨trivial, List.forall_mem_cons.mpr ⟨⟨_, _, _, rfl, by decide, zm_f5.1, zm_f5.2.1, zm_f5.2.2, Or.inl ⟨_, zw_736, Or.inl rfl⟩⟩, List.forall_mem_cons.mpr ⟨trivial, List.forall_mem_cons.mpr ⟨trivial, List.forall_mem_cons.mpr ⟨⟨_, _, _, rfl, by decide, zm_f5.1, zm_f5.2.1, zm_f5.2.2, Or.inl ⟨_, zw_757, Or.inl rfl⟩⟩, List.forall_mem_cons.mpr ⟨trivial, List.forall_mem_cons.mpr ⟨trivial, List.forall_mem_cons.mpr ⟨⟨_, _, _, rfl, by decide, zm_f5.1, zm_f5.2.1, zm_f5.2.2, Or.inl ⟨_, zw_737, Or.inl rfl⟩⟩, List.forall_mem_cons.mpr ⟨trivial, List.forall_mem_cons.mpr ⟨trivial, List.forall_mem_cons.mpr ⟨⟨_, _, _, rfl, by decide, zm_f5.1, zm_f5.2.1, zm_f5.2.2, Or.inl ⟨_, zw_758, Or.inl rfl⟩⟩, List.forall_mem_cons.mpr ⟨trivial, List.forall_mem_cons.mpr ⟨trivial, List.forall_mem_cons.mpr ⟨⟨_, _, _, rfl, by decide, zm_f5.1, zm_f5.2.1, zm_f5.2.2, Or.inl ⟨_, zw_738, Or.inl rfl⟩⟩, List.forall_mem_cons.mpr ⟨trivial, List.forall_mem_cons.mpr ⟨trivial, List.forall_mem_cons.mpr ⟨⟨_, _, _, rfl, by decide, zm_f5.1, zm_f5.2.1, zm_f5.2.2, Or.inl ⟨_, zw_759, Or.inl rfl⟩⟩, List.forall_mem_cons.mpr ⟨trivial, List.forall_mem_cons.mpr ⟨trivial, List.forall_mem_cons.mpr ⟨trivial, List.forall_mem_cons.mpr ⟨trivial, List.forall_mem_cons.mpr ⟨trivial, fun _ h => absurd h List.not_mem_nil⟩⟩⟩⟩⟩⟩⟩⟩⟩⟩⟩⟩⟩⟩⟩⟩⟩⟩⟩⟩⟩⟩⟩⟩⟩⟩⟩⟩⟩⟩⟩⟩⟩
set_option maxRecDepth 100000 in
theorem zq_89 : ∀ e ∈ zm_c89, zm_okq 89 e.2 := List.forall_mem_cons.mpr ⟨trivial, List.forall_mem_cons.mpr ⟨trivial, List.forall_mem_cons.mpr ⟨⟨_, _, _, rfl, by decide, zm_f5.1, zm_f5.2.1, zm_f5.2.2, Or.inl ⟨_, zw_736, Or.inl rfl⟩⟩, List.forall_mem_cons.mpr ⟨trivial, List.forall_mem_cons.mpr ⟨trivial, List.forall_mem_cons.mpr ⟨trivial, List.forall_mem_cons.mpr ⟨⟨_, _, _, rfl, by decide, zm_f5.1, zm_f5.2.1, zm_f5.2.2, Or.inl ⟨_, zw_737, Or.inl rfl⟩⟩, List.forall_mem_cons.mpr ⟨trivial, List.forall_mem_cons.mpr ⟨trivial, List.forall_mem_cons.mpr ⟨trivial, List.forall_mem_cons.mpr ⟨⟨_, _, _, rfl, by decide, zm_f5.1, zm_f5.2.1, zm_f5.2.2, Or.inl ⟨_, zw_738, Or.inl rfl⟩⟩, List.forall_mem_cons.mpr ⟨trivial, List.forall_mem_cons.mpr ⟨trivial, List.forall_mem_cons.mpr ⟨trivial, List.forall_mem_cons.mpr ⟨trivial, fun _ h => absurd h List.not_mem_nil⟩⟩⟩⟩⟩⟩⟩⟩⟩⟩⟩⟩⟩⟩⟩
set_option maxRecDepth 100000 in
theorem zq_90 : ∀ e ∈ zm_c90, zm_okq 90 e.2 := List.forall_mem_cons.mpr ⟨trivial, List.forall_mem_cons.mpr ⟨trivial, List.forall_mem_cons.mpr ⟨⟨⟨_, _, _, rfl, by decide, zm_f5.1, zm_f5.2.1, zm_f5.2.2, Or.inl ⟨_, zw_757, Or.inl rfl⟩⟩, zm_okw_n rfl rfl⟩, List.forall_mem_cons.mpr ⟨trivial, List.forall_mem_cons.mpr ⟨trivial, List.forall_mem_cons.mpr ⟨⟨⟨_, _, _, rfl, by decide, zm_f5.1, zm_f5.2.1, zm_f5.2.2, Or.inl ⟨_, zw_758, Or.inl rfl⟩⟩, zm_okw_n rfl rfl⟩, List.forall_mem_cons.mpr ⟨trivial, List.forall_mem_cons.mpr ⟨trivial, List.forall_mem_cons.mpr ⟨⟨⟨_, _, _, rfl, by decide, zm_f5.1, zm_f5.2.1, zm_f5.2.2, Or.inl ⟨_, zw_759, Or.inl rfl⟩⟩, zm_okw_n rfl rfl⟩, List.forall_mem_cons.mpr ⟨trivial, List.forall_mem_cons.mpr ⟨trivial, List.forall_mem_cons.mpr ⟨⟨_, _, _, rfl, by decide, zm_f5.1, zm_f5.2.1, zm_f5.2.2, Or.inl ⟨_, zw_751, Or.inl rfl⟩⟩, List.forall_mem_cons.mpr ⟨trivial, List.forall_mem_cons.mpr ⟨trivial, List.forall_mem_cons.mpr ⟨⟨⟨_, _, _, rfl, by decide, zm_f5.1, zm_f5.2.1, zm_f5.2.2, Or.inl ⟨_, zw_751, Or.inl rfl⟩⟩, zm_okw_n rfl rfl⟩, List.forall_mem_cons.mpr ⟨trivial, fun _ h => absurd h List.not_mem_nil⟩⟩⟩⟩⟩⟩⟩⟩⟩⟩⟩⟩⟩⟩⟩⟩
set_option maxRecDepth 100000 in
theorem zq_91 : ∀ e ∈ zm_c91, zm_okq 91 e.2 := List.forall_mem_cons.mpr ⟨trivial, List.forall_mem_cons.mpr ⟨⟨_, _, _, rfl, by decide, zm_f5.1, zm_f5.2.1, zm_f5.2.2, Or.inl ⟨_, zw_746, Or.inl rfl⟩⟩, List.forall_mem_cons.mpr ⟨trivial, List.forall_mem_cons.mpr ⟨trivial, List.forall_mem_cons.mpr ⟨trivial, List.forall_mem_cons.mpr ⟨trivial, List.forall_mem_cons.mpr ⟨trivial, List.forall_mem_cons.mpr ⟨trivial, List.forall_mem_cons.mpr ⟨trivial, List.forall_mem_cons.mpr ⟨trivial, List.forall_mem_cons.mpr ⟨trivial, List.forall_mem_cons.mpr ⟨trivial, List.forall_mem_cons.mpr ⟨trivial, List.forall_mem_cons.mpr ⟨trivial, List.forall_mem_cons.mpr ⟨trivial, List.forall_mem_cons.mpr ⟨trivial, List.forall_mem_cons.mpr ⟨⟨_, _, _, rfl, by decide, zm_f5.1, zm_f5.2.1, zm_f5.2.2, Or.inl ⟨_, zw_757, Or.inl rfl⟩⟩, List.forall_mem_cons.mpr ⟨trivial, List.forall_mem_cons.mpr ⟨trivial, List.forall_mem_cons.mpr ⟨trivial, List.forall_mem_cons.mpr ⟨⟨_, _, _, rfl, by decide, zm_f5.1, zm_f5.2.1, zm_f5.2.2, Or.inl ⟨_, zw_757, Or.inl rfl⟩⟩, List.forall_mem_cons.mpr ⟨trivial, List.forall_mem_cons.mpr ⟨trivial, List.forall_mem_cons.mpr ⟨trivial, List.forall_mem_cons.mpr ⟨trivial, List.forall_mem_cons.mpr ⟨⟨⟨_, _, _, rfl, by decide, zm_f5.1, zm_f5.2.1, zm_f5.2.2, Or.inl ⟨_, zw_732, Or.inl rfl⟩⟩, zm_okw_n rfl rfl⟩, List.forall_mem_cons.mpr ⟨trivial, List.forall_mem_cons.mpr ⟨trivial, List.forall_mem_cons.mpr ⟨trivial, List.forall_mem_cons.mpr ⟨trivial, List.forall_mem_cons.mpr ⟨⟨_, _, _, rfl, by decide, zm_f5.1, zm_f5.2.1, zm_f5.2.2, Or.inl ⟨_, zw_757, Or.inl rfl⟩⟩, List.forall_mem_cons.mpr ⟨trivial, List.forall_mem_cons.mpr ⟨trivial, List.forall_mem_cons.mpr ⟨trivial, List.forall_mem_cons.mpr ⟨trivial, List.forall_mem_cons.mpr ⟨trivial, List.forall_mem_cons.mpr ⟨trivial, List.forall_mem_cons.mpr ⟨trivial, List.forall_mem_cons.mpr ⟨trivial, List.forall_mem_cons.mpr ⟨trivial, List.forall_mem_cons.mpr ⟨trivial, List.forall_mem_cons.mpr ⟨trivial, List.forall_mem_cons.mpr ⟨trivial, List.forall_mem_cons.mpr ⟨trivial, List.forall_mem_cons.mpr ⟨trivial, List.forall_mem_cons.mpr ⟨trivial, List.forall_mem_cons.mpr ⟨⟨_, _, _, rfl, by decide, zm_f5.1, zm_f5.2.1, zm_f5.2.2, Or.inl ⟨_, zw_757, Or.inl rfl⟩⟩, List.forall_mem_cons.mpr ⟨trivial, List.forall_mem_cons.mpr ⟨trivial, List.forall_mem_cons.mpr ⟨trivial, List.forall_mem_cons.mpr ⟨trivial, List.forall_mem_cons.mpr ⟨⟨_, _, _, rfl, by decide, zm_f5.1, zm_f5.2.1, zm_f5.2.2, Or.inl ⟨_, zw_757, Or.inl rfl⟩⟩, List.forall_mem_cons.mpr ⟨trivial, List.forall_mem_cons.mpr ⟨trivial, List.forall_mem_cons.mpr ⟨trivial, List.forall_mem_cons.mpr ⟨trivial, List.forall_mem_cons.mpr ⟨trivial, List.forall_mem_cons.mpr ⟨⟨⟨_, _, _, rfl, by decide, zm_f5.1, zm_f5.2.1, zm_f5.2.2, Or.inl ⟨_, zw_732, Or.inl rfl⟩⟩, zm_okw_n rfl rfl⟩, List.forall_mem_cons.mpr ⟨trivial, List.forall_mem_cons.mpr ⟨trivial, List.forall_mem_cons.mpr ⟨trivial, List.forall_mem_cons.mpr ⟨trivial, List.forall_mem_cons.mpr ⟨trivial, List.forall_mem_cons.mpr ⟨trivial, List.forall_mem_cons.mpr ⟨⟨_, _, _, rfl, by decide, zm_f5.1, zm_f5.2.1, zm_f5.2.2, Or.inl ⟨_, zw_758, Or.inl rfl⟩⟩, List.forall_mem_cons.mpr ⟨trivial, List.forall_mem_cons.mpr ⟨trivial, List.forall_mem_cons.mpr ⟨⟨_, _, _, rfl, by decide, zm_f5.1, zm_f5.2.1, zm_f5.2.2, Or.inl ⟨_, zw_759, Or.inl rfl⟩⟩, List.forall_mem_cons.mpr ⟨trivial, List.forall_mem_cons.mpr ⟨trivial, List.forall_mem_cons.mpr ⟨trivial, List.forall_mem_cons.mpr ⟨trivial, List.forall_mem_cons.mpr ⟨trivial, List.forall_mem_cons.mpr ⟨trivial, List.forall_mem_cons.mpr ⟨trivial, List.forall_mem_cons.mpr ⟨trivial, List.forall_mem_cons.mpr ⟨trivial, List.forall_mem_cons.mpr ⟨trivial, List.forall_mem_cons.mpr ⟨trivial, List.forall_mem_cons.mpr ⟨trivial, List.forall_mem_cons.mpr ⟨trivial, List.forall_mem_cons.mpr ⟨trivial, List.forall_mem_cons.mpr ⟨trivial, List.forall_mem_cons.mpr ⟨trivial, List.forall_mem_cons.mpr ⟨⟨_, _, _, rfl, by decide, zm_f5.1, zm_f5.2.1, zm_f5.2.2, Or.inl ⟨_, zw_748, Or.inl rfl⟩⟩, List.forall_mem_cons.mpr ⟨trivial, List.forall_mem_cons.mpr ⟨trivial, List.forall_mem_cons.mpr ⟨trivial, List.forall_mem_cons.mpr ⟨trivial, List.forall_mem_cons.mpr ⟨trivial, List.forall_mem_cons.mpr ⟨⟨_, _, _, rfl, by decide, zm_f5.1, zm_f5.2.1, zm_f5.2.2, Or.inl ⟨_, zw_758, Or.inl rfl⟩⟩, List.forall_mem_cons.mpr ⟨trivial, List.forall_mem_cons.mpr ⟨trivial, List.forall_mem_cons.mpr ⟨trivial, List.forall_mem_cons.mpr ⟨trivial, List.forall_mem_cons.mpr ⟨trivial, List.forall_mem_cons.mpr ⟨trivial, List.forall_mem_cons.mpr ⟨trivial, List.forall_mem_cons.mpr ⟨⟨_, _, _, rfl, by decide, zm_f5.1, zm_f5.2.1, zm_f5.2.2, Or.inl ⟨_, zw_747, Or.inl rfl⟩⟩, List.forall_mem_cons.mpr ⟨trivial, List.forall_mem_cons.mpr ⟨trivial, List.forall_mem_cons.mpr ⟨trivial, List.forall_mem_cons.mpr ⟨trivial, List.forall_mem_cons.mpr ⟨trivial, List.forall_mem_cons.mpr ⟨⟨_, _, _, rfl, by decide, zm_f5.1, zm_f5.2.1, zm_f5.2.2, Or.inl ⟨_, zw_748, Or.inl rfl⟩⟩, List.forall_mem_cons.mpr ⟨trivial, List.forall_mem_cons.mpr ⟨trivial, List.forall_mem_cons.mpr ⟨trivial, List.forall_mem_cons.mpr ⟨trivial, List.forall_mem_cons.mpr ⟨trivial, List.forall_mem_cons.mpr ⟨⟨_, _, _, rfl, by decide, zm_f5.1, zm_f5.2.1, zm_f5.2.2, Or.inl ⟨_, zw_749, Or.inl rfl⟩⟩, List.forall_mem_cons.mpr ⟨trivial, List.forall_mem_cons.mpr ⟨trivial, List.forall_mem_cons.mpr ⟨⟨_, _, _, rfl, by decide, zm_f5.1, zm_f5.2.1, zm_f5.2.2, Or.inl ⟨_, zw_758, Or.inl rfl⟩⟩, List.forall_mem_cons.mpr ⟨trivial, List.forall_mem_cons.mpr ⟨trivial, List.forall_mem_cons.mpr ⟨⟨_, _, _, rfl, by decide, zm_f5.1, zm_f5.2.1, zm_f5.2.2, Or.inl ⟨_, zw_748, Or.inl rfl⟩⟩, List.forall_mem_cons.mpr ⟨trivial, List.forall_mem_cons.mpr ⟨trivial, List.forall_mem_cons.mpr ⟨trivial, List.forall_mem_cons.mpr ⟨trivial, List.forall_mem_cons.mpr ⟨trivial, List.forall_mem_cons.mpr ⟨trivial, List.forall_mem_cons.mpr ⟨trivial, List.forall_mem_cons.mpr ⟨trivial, List.forall_mem_cons.mpr ⟨trivial, List.forall_mem_cons.mpr ⟨trivial, List.forall_mem_cons.mpr ⟨⟨_, _, _, rfl, by decide, zm_f5.1, zm_f5.2.1, zm_f5.2.2, Or.inl ⟨_, zw_747, Or.inl rfl⟩⟩, List.forall_mem_cons.mpr ⟨trivial, List.forall_mem_cons.mpr ⟨trivial, List.forall_mem_cons.mpr ⟨trivial, List.forall_mem_cons.mpr ⟨trivial, List.forall_mem_cons.mpr ⟨trivial, List.forall_mem_cons.mpr ⟨trivial, List.forall_mem_cons.mpr ⟨trivial, List.forall_mem_cons.mpr ⟨⟨_, _, _, rfl, by decide, zm_f5.1, zm_f5.2.1, zm_f5.2.2, Or.inl ⟨_, zw_749, Or.inl rfl⟩⟩, List.forall_mem_cons.mpr ⟨trivial, List.forall_mem_cons.mpr ⟨trivial, List.forall_mem_cons.mpr ⟨trivial, List.forall_mem_cons.mpr ⟨⟨_, _, _, rfl, by decide, zm_f5.1, zm_f5.2.1, zm_f5.2.2, Or.inl ⟨_, zw_758, Or.inl rfl⟩⟩, List.forall_mem_cons.mpr ⟨trivial, List.forall_mem_cons.mpr ⟨trivial, List.forall_mem_cons.mpr ⟨trivial, List.forall_mem_cons.mpr ⟨⟨_, _, _, rfl, by decide, zm_f5.1, zm_f5.2.1, zm_f5.2.2, Or.inl ⟨_, zw_732, Or.inl rfl⟩⟩, List.forall_mem_cons.mpr ⟨trivial, List.forall_mem_cons.mpr ⟨trivial, List.forall_mem_cons.mpr ⟨trivial, List.forall_mem_cons.mpr ⟨trivial, List.forall_mem_cons.mpr ⟨trivial, List.forall_mem_cons.mpr ⟨trivial, List.forall_mem_cons.mpr ⟨trivial, fun _ h => absurd h List.not_mem_nil⟩⟩⟩⟩⟩⟩⟩⟩⟩⟩⟩⟩⟩⟩⟩⟩⟩⟩⟩⟩⟩⟩⟩⟩⟩⟩⟩⟩⟩⟩⟩⟩⟩⟩⟩⟩⟩⟩⟩⟩⟩⟩⟩⟩⟩⟩⟩⟩⟩⟩⟩⟩⟩⟩⟩⟩⟩⟩⟩⟩⟩⟩⟩⟩⟩⟩⟩⟩⟩⟩⟩⟩⟩⟩⟩⟩⟩⟩⟩⟩⟩⟩⟩⟩⟩⟩⟩⟩⟩⟩⟩⟩⟩⟩⟩⟩⟩⟩⟩⟩⟩⟩⟩⟩⟩⟩⟩⟩⟩⟩⟩⟩⟩⟩⟩⟩⟩⟩⟩⟩⟩⟩⟩⟩⟩⟩⟩⟩⟩⟩⟩⟩⟩⟩⟩⟩⟩⟩⟩⟩⟩⟩⟩⟩⟩⟩⟩⟩⟩⟩⟩
set_option maxRecDepth 100000 in
theorem zq_92 : ∀ e ∈ zm_c92, zm_okq 92 e.2 := List.forall_mem_cons.mpr ⟨trivial, List.forall_mem_cons.mpr ⟨⟨_, _, _, rfl, by decide, zm_f5.1, zm_f5.2.1, zm_f5.2.2, Or.inl ⟨_, zw_757, Or.inl rfl⟩⟩, List.forall_mem_cons.mpr ⟨trivial, List.forall_mem_cons.mpr ⟨trivial, List.forall_mem_cons.mpr ⟨trivial, List.forall_mem_cons.mpr ⟨trivial, List.forall_mem_cons.mpr ⟨⟨⟨_, _, _, rfl, by decide, zm_f5.1, zm_f5.2.1, zm_f5.2.2, Or.inl ⟨_, zw_732, Or.inl rfl⟩⟩, zm_okw_n rfl rfl⟩, List.forall_mem_cons.mpr ⟨trivial, List.forall_mem_cons.mpr ⟨trivial, List.forall_mem_cons.mpr ⟨⟨_, _, _, rfl, by decide, zm_f5.1, zm_f5.2.1, zm_f5.2.2, Or.inl ⟨_, zw_758, Or.inl rfl⟩⟩, List.forall_mem_cons.mpr ⟨trivial, List.forall_mem_cons.mpr ⟨trivial, List.forall_mem_cons.mpr ⟨⟨_, _, _, rfl, by decide, zm_f5.1, zm_f5.2.1, zm_f5.2.2, Or.inl ⟨_, zw_746, Or.inl rfl⟩⟩, List.forall_mem_cons.mpr ⟨trivial, List.forall_mem_cons.mpr ⟨trivial, List.forall_mem_cons.mpr ⟨trivial, List.forall_mem_cons.mpr ⟨trivial, List.forall_mem_cons.mpr ⟨⟨_, _, _, rfl, by decide, zm_f5.1, zm_f5.2.1, zm_f5.2.2, Or.inl ⟨_, zw_741, Or.inl rfl⟩⟩, List.forall_mem_cons.mpr ⟨trivial, List.forall_mem_cons.mpr ⟨⟨_, _, _, rfl, by decide, zm_f5.1, zm_f5.2.1, zm_f5.2.2, Or.inl ⟨_, zw_745, Or.inl rfl⟩⟩, List.forall_mem_cons.mpr ⟨trivial, List.forall_mem_cons.mpr ⟨trivial, List.forall_mem_cons.mpr ⟨trivial, List.forall_mem_cons.mpr ⟨trivial, List.forall_mem_cons.mpr ⟨trivial, List.forall_mem_cons.mpr ⟨trivial, List.forall_mem_cons.mpr ⟨trivial, List.forall_mem_cons.mpr ⟨⟨_, _, _, rfl, by decide, zm_f5.1, zm_f5.2.1, zm_f5.2.2, Or.inl ⟨_, zw_747, Or.inl rfl⟩⟩, List.forall_mem_cons.mpr ⟨trivial, List.forall_mem_cons.mpr ⟨trivial, List.forall_mem_cons.mpr ⟨trivial, List.forall_mem_cons.mpr ⟨trivial, List.forall_mem_cons.mpr ⟨trivial, List.forall_mem_cons.mpr ⟨⟨_, _, _, rfl, by decide, zm_f5.1, zm_f5.2.1, zm_f5.2.2, Or.inl ⟨_, zw_742, Or.inl rfl⟩⟩, List.forall_mem_cons.mpr ⟨trivial, List.forall_mem_cons.mpr ⟨⟨_, _, _, rfl, by decide, zm_f5.1, zm_f5.2.1, zm_f5.2.2, Or.inl ⟨_, zw_745, Or.inl rfl⟩⟩, List.forall_mem_cons.mpr ⟨trivial, List.forall_mem_cons.mpr ⟨⟨_, _, _, rfl, by decide, zm_f5.1, zm_f5.2.1, zm_f5.2.2, Or.inl ⟨_, zw_759, Or.inl rfl⟩⟩, List.forall_mem_cons.mpr ⟨trivial, List.forall_mem_cons.mpr ⟨trivial, List.forall_mem_cons.mpr ⟨trivial, List.forall_mem_cons.mpr ⟨⟨_, _, _, rfl, by decide, zm_f5.1, zm_f5.2.1, zm_f5.2.2, Or.inl ⟨_, zw_745, Or.inl rfl⟩⟩, List.forall_mem_cons.mpr ⟨trivial, List.forall_mem_cons.mpr ⟨trivial, List.forall_mem_cons.mpr ⟨⟨⟨_, _, _, rfl, by decide, zm_f5.1, zm_f5.2.1, zm_f5.2.2, Or.inl ⟨_, zw_745, Or.inl rfl⟩⟩, zm_okw_n rfl rfl⟩, List.forall_mem_cons.mpr ⟨trivial, List.forall_mem_cons.mpr ⟨⟨_, _, _, rfl, by decide, zm_f5.1, zm_f5.2.1, zm_f5.2.2, Or.inl ⟨_, zw_745, Or.inl rfl⟩⟩, List.forall_mem_cons.mpr ⟨trivial, List.forall_mem_cons.mpr ⟨trivial, List.forall_mem_cons.mpr ⟨trivial, List.forall_mem_cons.mpr ⟨trivial, List.forall_mem_cons.mpr ⟨trivial, List.forall_mem_cons.mpr ⟨trivial, List.forall_mem_cons.mpr ⟨trivial, List.forall_mem_cons.mpr ⟨trivial, List.forall_mem_cons.mpr ⟨⟨_, _, _, rfl, by decide, zm_f5.1, zm_f5.2.1, zm_f5.2.2, Or.inl ⟨_, zw_727, Or.inl rfl⟩⟩, List.forall_mem_cons.mpr ⟨trivial, List.forall_mem_cons.mpr ⟨trivial, List.forall_mem_cons.mpr ⟨trivial, List.forall_mem_cons.mpr ⟨trivial, List.forall_mem_cons.mpr ⟨trivial, List.forall_mem_cons.mpr ⟨⟨⟨_, _, _, rfl, by decide, zm_f5.1, zm_f5.2.1, zm_f5.2.2, Or.inl ⟨_, zw_732, Or.inl rfl⟩⟩, zm_okw_n rfl rfl⟩, List.forall_mem_cons.mpr ⟨trivial, List.forall_mem_cons.mpr ⟨trivial, List.forall_mem_cons.mpr ⟨trivial, List.forall_mem_cons.mpr ⟨⟨_, _, _, rfl, by decide, zm_f5.1, zm_f5.2.1, zm_f5.2.2, Or.inl ⟨_, zw_725, Or.inl rfl⟩⟩, List.forall_mem_cons.mpr ⟨trivial, List.forall_mem_cons.mpr ⟨trivial, List.forall_mem_cons.mpr ⟨trivial, List.forall_mem_cons.mpr ⟨trivial, List.forall_mem_cons.mpr ⟨trivial, List.forall_mem_cons.mpr ⟨trivial, List.forall_mem_cons.mpr ⟨trivial, List.forall_mem_cons.mpr ⟨trivial, List.forall_mem_cons.mpr ⟨trivial, List.forall_mem_cons.mpr ⟨trivial, List.forall_mem_cons.mpr ⟨trivial, List.forall_mem_cons.mpr ⟨trivial, List.forall_mem_cons.mpr ⟨trivial, List.forall_mem_cons.mpr ⟨trivial, List.forall_mem_cons.mpr ⟨trivial, fun _ h => absurd h List.not_mem_nil⟩⟩⟩⟩⟩⟩⟩⟩⟩⟩⟩⟩⟩⟩⟩⟩⟩⟩⟩⟩⟩⟩⟩⟩⟩⟩⟩⟩⟩⟩⟩⟩⟩⟩⟩⟩⟩⟩⟩⟩⟩⟩⟩⟩⟩⟩⟩⟩⟩⟩⟩⟩⟩⟩⟩⟩⟩⟩⟩⟩⟩⟩⟩⟩⟩⟩⟩⟩⟩⟩⟩⟩⟩⟩⟩⟩⟩⟩⟩⟩⟩
set_option maxRecDepth 100000 in
theorem zq_93 : ∀ e ∈ zm_c93, zm_okq 93 e.2 := List.forall_mem_cons.mpr ⟨trivial, List.forall_mem_cons.mpr ⟨⟨_, _, _, rfl, by decide, zm_f5.1, zm_f5.2.1, zm_f5.2.2, Or.inl ⟨_, zw_721, Or.inl rfl⟩⟩, List.forall_mem_cons.mpr ⟨trivial, List.forall_mem_cons.mpr ⟨trivial, List.forall_mem_cons.mpr ⟨trivial, List.forall_mem_cons.mpr ⟨trivial, List.forall_mem_cons.mpr ⟨trivial, List.forall_mem_cons.mpr ⟨trivial, List.forall_mem_cons.mpr ⟨trivial, List.forall_mem_cons.mpr ⟨trivial, List.forall_mem_cons.mpr ⟨⟨_, _, _, rfl, by decide, zm_f5.1, zm_f5.2.1, zm_f5.2.2, Or.inl ⟨_, zw_721, Or.inl rfl⟩⟩, List.forall_mem_cons.mpr ⟨trivial, List.forall_mem_cons.mpr ⟨trivial, List.forall_mem_cons.mpr ⟨trivial, List.forall_mem_cons.mpr ⟨trivial, List.forall_mem_cons.mpr ⟨trivial, List.forall_mem_cons.mpr ⟨trivial, List.forall_mem_cons.mpr ⟨⟨_, _, _, rfl, by decide, zm_f5.1, zm_f5.2.1, zm_f5.2.2, Or.inl ⟨_, zw_733, Or.inl rfl⟩⟩, List.forall_mem_cons.mpr ⟨trivial, List.forall_mem_cons.mpr ⟨⟨_, _, _, rfl, by decide, zm_f5.1, zm_f5.2.1, zm_f5.2.2, Or.inl ⟨_, zw_743, Or.inl rfl⟩⟩, List.forall_mem_cons.mpr ⟨trivial, List.forall_mem_cons.mpr ⟨trivial, List.forall_mem_cons.mpr ⟨trivial, List.forall_mem_cons.mpr ⟨⟨_, _, _, rfl, by decide, zm_f5.1, zm_f5.2.1, zm_f5.2.2, Or.inl ⟨_, zw_734, Or.inl rfl⟩⟩, List.forall_mem_cons.mpr ⟨trivial, List.forall_mem_cons.mpr ⟨⟨_, _, _, rfl, by decide, zm_f5.1, zm_f5.2.1, zm_f5.2.2, Or.inl ⟨_, zw_743, Or.inl rfl⟩⟩, List.forall_mem_cons.mpr ⟨trivial, List.forall_mem_cons.mpr ⟨trivial, List.forall_mem_cons.mpr ⟨trivial, List.forall_mem_cons.mpr ⟨⟨_, _, _, rfl, by decide, zm_f5.1, zm_f5.2.1, zm_f5.2.2, Or.inl ⟨_, zw_735, Or.inl rfl⟩⟩, List.forall_mem_cons.mpr ⟨trivial, List.forall_mem_cons.mpr ⟨⟨_, _, _, rfl, by decide, zm_f5.1, zm_f5.2.1, zm_f5.2.2, Or.inl ⟨_, zw_743, Or.inl rfl⟩⟩, List.forall_mem_cons.mpr ⟨trivial, List.forall_mem_cons.mpr ⟨trivial, List.forall_mem_cons.mpr ⟨trivial, List.forall_mem_cons.mpr ⟨trivial, List.forall_mem_cons.mpr ⟨⟨_, _, _, rfl, by decide, zm_f5.1, zm_f5.2.1, zm_f5.2.2, Or.inl ⟨_, zw_743, Or.inl rfl⟩⟩, List.forall_mem_cons.mpr ⟨trivial, List.forall_mem_cons.mpr ⟨trivial, List.forall_mem_cons.mpr ⟨⟨⟨_, _, _, rfl, by decide, zm_f5.1, zm_f5.2.1, zm_f5.2.2, Or.inl ⟨_, zw_743, Or.inl rfl⟩⟩, zm_okw_n rfl rfl⟩, List.forall_mem_cons.mpr ⟨trivial, List.forall_mem_cons.mpr ⟨⟨_, _, _, rfl, by decide, zm_f5.1, zm_f5.2.1, zm_f5.2.2, Or.inl ⟨_, zw_743, Or.inl rfl⟩⟩, List.forall_mem_cons.mpr ⟨trivial, List.forall_mem_cons.mpr ⟨trivial, List.forall_mem_cons.mpr ⟨trivial, fun _ h => absurd h List.not_mem_nil⟩⟩⟩⟩⟩⟩⟩⟩⟩⟩⟩⟩⟩⟩⟩⟩⟩⟩⟩⟩⟩⟩⟩⟩⟩⟩⟩⟩⟩⟩⟩⟩⟩⟩⟩⟩⟩⟩⟩⟩⟩⟩⟩⟩⟩
set_option maxRecDepth 100000 in
theorem zq_94 : ∀ e ∈ zm_c94, zm_okq 94 e.2 := List.forall_mem_cons.mpr ⟨trivial, List.forall_mem_cons.mpr ⟨trivial, List.forall_mem_cons.mpr ⟨trivial, List.forall_mem_cons.mpr ⟨trivial, List.forall_mem_cons.mpr ⟨trivial, List.forall_mem_cons.mpr ⟨⟨_, _, _, rfl, by decide, zm_f5.1, zm_f5.2.1, zm_f5.2.2, Or.inl ⟨_, zw_739, Or.inl rfl⟩⟩, List.forall_mem_cons.mpr ⟨trivial, List.forall_mem_cons.mpr ⟨trivial, List.forall_mem_cons.mpr ⟨trivial, List.forall_mem_cons.mpr ⟨trivial, List.forall_mem_cons.mpr ⟨trivial, List.forall_mem_cons.mpr ⟨trivial, List.forall_mem_cons.mpr ⟨trivial, List.forall_mem_cons.mpr ⟨⟨_, _, _, rfl, by decide, zm_f5.1, zm_f5.2.1, zm_f5.2.2, Or.inl ⟨_, zw_740, Or.inl rfl⟩⟩, List.forall_mem_cons.mpr ⟨trivial, List.forall_mem_cons.mpr ⟨trivial, List.forall_mem_cons.mpr ⟨trivial, fun _ h => absurd h List.not_mem_nil⟩⟩⟩⟩⟩⟩⟩⟩⟩⟩⟩⟩⟩⟩⟩⟩⟩
set_option maxRecDepth 100000 in
theorem zq_95 : ∀ e ∈ zm_c95, zm_okq 95 e.2 := List.forall_mem_cons.mpr ⟨trivial, List.forall_mem_cons.mpr ⟨trivial, List.forall_mem_cons.mpr ⟨trivial, List.forall_mem_cons.mpr ⟨trivial, List.forall_mem_cons.mpr ⟨trivial, List.forall_mem_cons.mpr ⟨trivial, List.forall_mem_cons.mpr ⟨trivial, List.forall_mem_cons.mpr ⟨trivial, List.forall_mem_cons.mpr ⟨⟨_, _, _, rfl, by decide, zm_f5.1, zm_f5.2.1, zm_f5.2.2, Or.inl ⟨_, zw_742, Or.inl rfl⟩⟩, List.forall_mem_cons.mpr ⟨trivial, List.forall_mem_cons.mpr ⟨trivial, List.forall_mem_cons.mpr ⟨trivial, List.forall_mem_cons.mpr ⟨trivial, List.forall_mem_cons.mpr ⟨trivial, List.forall_mem_cons.mpr ⟨trivial, fun _ h => absurd h List.not_mem_nil⟩⟩⟩⟩⟩⟩⟩⟩⟩⟩⟩⟩⟩⟩⟩
set_option maxRecDepth 100000 in
theorem zq_96 : ∀ e ∈ zm_c96, zm_okq 96 e.2 := List.forall_mem_cons.mpr ⟨trivial, List.forall_mem_cons.mpr ⟨⟨_, _, _, rfl, by decide, zm_f5.1, zm_f5.2.1, zm_f5.2.2, Or.inl ⟨_, zw_753, Or.inl rfl⟩⟩, List.forall_mem_cons.mpr ⟨trivial, List.forall_mem_cons.mpr ⟨trivial, List.forall_mem_cons.mpr ⟨trivial, List.forall_mem_cons.mpr ⟨trivial, List.forall_mem_cons.mpr ⟨⟨⟨_, _, _, rfl, by decide, zm_f5.1, zm_f5.2.1, zm_f5.2.2, Or.inl ⟨_, zw_732, Or.inl rfl⟩⟩, zm_okw_n rfl rfl⟩, List.forall_mem_cons.mpr ⟨trivial, List.forall_mem_cons.mpr ⟨trivial, List.forall_mem_cons.mpr ⟨trivial, List.forall_mem_cons.mpr ⟨⟨_, _, _, rfl, by decide, zm_f5.1, zm_f5.2.1, zm_f5.2.2, Or.inl ⟨_, zw_753, Or.inl rfl⟩⟩, List.forall_mem_cons.mpr ⟨trivial, List.forall_mem_cons.mpr ⟨trivial, List.forall_mem_cons.mpr ⟨⟨⟨_, _, _, rfl, by decide, zm_f5.1, zm_f5.2.1, zm_f5.2.2, Or.inl ⟨_, zw_753, Or.inl rfl⟩⟩, zm_okw_n rfl rfl⟩, List.forall_mem_cons.mpr ⟨trivial, List.forall_mem_cons.mpr ⟨trivial, List.forall_mem_cons.mpr ⟨⟨_, _, _, rfl, by decide, zm_f5.1, zm_f5.2.1, zm_f5.2.2, Or.inl ⟨_, zw_754, Or.inl rfl⟩⟩, List.forall_mem_cons.mpr ⟨trivial, List.forall_mem_cons.mpr ⟨trivial, List.forall_mem_cons.mpr ⟨⟨⟨_, _, _, rfl, by decide, zm_f5.1, zm_f5.2.1, zm_f5.2.2, Or.inl ⟨_, zw_754, Or.inl rfl⟩⟩, zm_okw_n rfl rfl⟩, List.forall_mem_cons.mpr ⟨trivial, List.forall_mem_cons.mpr ⟨trivial, List.forall_mem_cons.mpr ⟨trivial, List.forall_mem_cons.mpr ⟨⟨_, _, _, rfl, by decide, zm_f5.1, zm_f5.2.1, zm_f5.2.2, Or.inl ⟨_, zw_744, Or.inl rfl⟩⟩, List.forall_mem_cons.mpr ⟨trivial, List.forall_mem_cons.mpr ⟨trivial, List.forall_mem_cons.mpr ⟨trivial, List.forall_mem_cons.mpr ⟨⟨_, _, _, rfl, by decide, zm_f5.1, zm_f5.2.1, zm_f5.2.2, Or.inl ⟨_, zw_744, Or.inl rfl⟩⟩, List.forall_mem_cons.mpr ⟨trivial, List.forall_mem_cons.mpr ⟨trivial, List.forall_mem_cons.mpr ⟨⟨⟨_, _, _, rfl, by decide, zm_f5.1, zm_f5.2.1, zm_f5.2.2, Or.inl ⟨_, zw_744, Or.inl rfl⟩⟩, zm_okw_n rfl rfl⟩, List.forall_mem_cons.mpr ⟨trivial, List.forall_mem_cons.mpr ⟨trivial, List.forall_mem_cons.mpr ⟨trivial, List.forall_mem_cons.mpr ⟨trivial, List.forall_mem_cons.mpr ⟨trivial, List.forall_mem_cons.mpr ⟨trivial, List.forall_mem_cons.mpr ⟨⟨_, _, _, rfl, by decide, zm_f5.1, zm_f5.2.1, zm_f5.2.2, Or.inl ⟨_, zw_739, Or.inl rfl⟩⟩, List.forall_mem_cons.mpr ⟨trivial, List.forall_mem_cons.mpr ⟨trivial, List.forall_mem_cons.mpr ⟨trivial, List.forall_mem_cons.mpr ⟨trivial, List.forall_mem_cons.mpr ⟨trivial, List.forall_mem_cons.mpr ⟨trivial, List.forall_mem_cons.mpr ⟨trivial, List.forall_mem_cons.mpr ⟨trivial, List.forall_mem_cons.mpr ⟨trivial, List.forall_mem_cons.mpr ⟨trivial, List.forall_mem_cons.mpr ⟨trivial, List.forall_mem_cons.mpr ⟨trivial, List.forall_mem_cons.mpr ⟨trivial, List.forall_mem_cons.mpr ⟨trivial, List.forall_mem_cons.mpr ⟨trivial, List.forall_mem_cons.mpr ⟨trivial, List.forall_mem_cons.mpr ⟨trivial, List.forall_mem_cons.mpr ⟨⟨_, _, _, rfl, by decide, zm_f5.1, zm_f5.2.1, zm_f5.2.2, Or.inl ⟨_, zw_725, Or.inl rfl⟩⟩, List.forall_mem_cons.mpr ⟨trivial, List.forall_mem_cons.mpr ⟨trivial, List.forall_mem_cons.mpr ⟨trivial, List.forall_mem_cons.mpr ⟨trivial, List.forall_mem_cons.mpr ⟨⟨_, _, _, rfl, by decide, zm_f5.1, zm_f5.2.1, zm_f5.2.2, Or.inl ⟨_, zw_739, Or.inl rfl⟩⟩, List.forall_mem_cons.mpr ⟨trivial, List.forall_mem_cons.mpr ⟨trivial, List.forall_mem_cons.mpr ⟨trivial, List.forall_mem_cons.mpr ⟨trivial, List.forall_mem_cons.mpr ⟨trivial, List.forall_mem_cons.mpr ⟨trivial, List.forall_mem_cons.mpr ⟨⟨_, _, _, rfl, by decide, zm_f5.1, zm_f5.2.1, zm_f5.2.2, Or.inl ⟨_, zw_724, Or.inl rfl⟩⟩, List.forall_mem_cons.mpr ⟨trivial, List.forall_mem_cons.mpr ⟨trivial, List.forall_mem_cons.mpr ⟨trivial, List.forall_mem_cons.mpr ⟨trivial, List.forall_mem_cons.mpr ⟨trivial, List.forall_mem_cons.mpr ⟨trivial, List.forall_mem_cons.mpr ⟨trivial, List.forall_mem_cons.mpr ⟨trivial, List.forall_mem_cons.mpr ⟨⟨_, _, _, rfl, by decide, zm_f5.1, zm_f5.2.1, zm_f5.2.2, Or.inl ⟨_, zw_740, Or.inl rfl⟩⟩, List.forall_mem_cons.mpr ⟨trivial, List.forall_mem_cons.mpr ⟨trivial, List.forall_mem_cons.mpr ⟨trivial, List.forall_mem_cons.mpr ⟨trivial, List.forall_mem_cons.mpr ⟨trivial, List.forall_mem_cons.mpr ⟨trivial, List.forall_mem_cons.mpr ⟨⟨_, _, _, rfl, by decide, zm_f5.1, zm_f5.2.1, zm_f5.2.2, Or.inl ⟨_, zw_741, Or.inl rfl⟩⟩, List.forall_mem_cons.mpr ⟨trivial, List.forall_mem_cons.mpr ⟨trivial, List.forall_mem_cons.mpr ⟨trivial, List.forall_mem_cons.mpr ⟨trivial, List.forall_mem_cons.mpr ⟨⟨_, _, _, rfl, by decide, zm_f5.1, zm_f5.2.1, zm_f5.2.2, Or.inl ⟨_, zw_742, Or.inl rfl⟩⟩, List.forall_mem_cons.mpr ⟨trivial, List.forall_mem_cons.mpr ⟨trivial, List.forall_mem_cons.mpr ⟨trivial, List.forall_mem_cons.mpr ⟨trivial, List.forall_mem_cons.mpr ⟨trivial, List.forall_mem_cons.mpr ⟨trivial, List.forall_mem_cons.mpr ⟨⟨_, _, _, rfl, by decide, zm_f5.1, zm_f5.2.1, zm_f5.2.2, Or.inl ⟨_, zw_748, Or.inl rfl⟩⟩, List.forall_mem_cons.mpr ⟨trivial, List.forall_mem_cons.mpr ⟨⟨_, _, _, rfl, by decide, zm_f5.1, zm_f5.2.1, zm_f5.2.2, Or.inl ⟨_, zw_751, Or.inl rfl⟩⟩, List.forall_mem_cons.mpr ⟨trivial, List.forall_mem_cons.mpr ⟨trivial, List.forall_mem_cons.mpr ⟨trivial, List.forall_mem_cons.mpr ⟨trivial, List.forall_mem_cons.mpr ⟨⟨_, _, _, rfl, by decide, zm_f5.1, zm_f5.2.1, zm_f5.2.2, Or.inl ⟨_, zw_723, Or.inl rfl⟩⟩, List.forall_mem_cons.mpr ⟨trivial, List.forall_mem_cons.mpr ⟨trivial, List.forall_mem_cons.mpr ⟨trivial, List.forall_mem_cons.mpr ⟨trivial, List.forall_mem_cons.mpr ⟨trivial, fun _ h => absurd h List.not_mem_nil⟩⟩⟩⟩⟩⟩⟩⟩⟩⟩⟩⟩⟩⟩⟩⟩⟩⟩⟩⟩⟩⟩⟩⟩⟩⟩⟩⟩⟩⟩⟩⟩⟩⟩⟩⟩⟩⟩⟩⟩⟩⟩⟩⟩⟩⟩⟩⟩⟩⟩⟩⟩⟩⟩⟩⟩⟩⟩⟩⟩⟩⟩⟩⟩⟩⟩⟩⟩⟩⟩⟩⟩⟩⟩⟩⟩⟩⟩⟩⟩⟩⟩⟩⟩⟩⟩⟩⟩⟩⟩⟩⟩⟩⟩⟩⟩⟩⟩⟩⟩⟩⟩⟩⟩⟩⟩⟩⟩
set_option maxRecDepth 100000 in
theorem zq_97 : ∀ e ∈ zm_c97, zm_okq 97 e.2 := List.forall_mem_cons.mpr ⟨trivial, List.forall_mem_cons.mpr ⟨⟨_, _, _, rfl, by decide, zm_f5.1, zm_f5.2.1, zm_f5.2.2, Or.inl ⟨_, zw_735, Or.inl rfl⟩⟩, List.forall_mem_cons.mpr ⟨trivial, List.forall_mem_cons.mpr ⟨trivial, List.forall_mem_cons.mpr ⟨trivial, List.forall_mem_cons.mpr ⟨trivial, List.forall_mem_cons.mpr ⟨trivial, List.forall_mem_cons.mpr ⟨trivial, List.forall_mem_cons.mpr ⟨⟨_, _, _, rfl, by decide, zm_f5.1, zm_f5.2.1, zm_f5.2.2, Or.inl ⟨_, zw_756, Or.inl rfl⟩⟩, List.forall_mem_cons.mpr ⟨trivial, List.forall_mem_cons.mpr ⟨trivial, List.forall_mem_cons.mpr ⟨⟨⟨_, _, _, rfl, by decide, zm_f5.1, zm_f5.2.1, zm_f5.2.2, Or.inl ⟨_, zw_756, Or.inl rfl⟩⟩, zm_okw_n rfl rfl⟩, List.forall_mem_cons.mpr ⟨trivial, List.forall_mem_cons.mpr ⟨trivial, List.forall_mem_cons.mpr ⟨trivial, List.forall_mem_cons.mpr ⟨trivial, List.forall_mem_cons.mpr ⟨trivial, List.forall_mem_cons.mpr ⟨⟨_, _, _, rfl, by decide, zm_f5.1, zm_f5.2.1, zm_f5.2.2, Or.inl ⟨_, zw_735, Or.inl rfl⟩⟩, List.forall_mem_cons.mpr ⟨trivial, List.forall_mem_cons.mpr ⟨trivial, List.forall_mem_cons.mpr ⟨trivial, List.forall_mem_cons.mpr ⟨trivial, List.forall_mem_cons.mpr ⟨trivial, List.forall_mem_cons.mpr ⟨trivial, List.forall_mem_cons.mpr ⟨⟨⟨_, _, _, rfl, by decide, zm_f5.1, zm_f5.2.1, zm_f5.2.2, Or.inl ⟨_, zw_732, Or.inl rfl⟩⟩, zm_okw_n rfl rfl⟩, List.forall_mem_cons.mpr ⟨trivial, List.forall_mem_cons.mpr ⟨trivial, List.forall_mem_cons.mpr ⟨trivial, List.forall_mem_cons.mpr ⟨⟨_, _, _, rfl, by decide, zm_f5.1, zm_f5.2.1, zm_f5.2.2, Or.inl ⟨_, zw_755, Or.inl rfl⟩⟩, List.forall_mem_cons.mpr ⟨trivial, List.forall_mem_cons.mpr ⟨trivial, List.forall_mem_cons.mpr ⟨⟨⟨_, _, _, rfl, by decide, zm_f5.1, zm_f5.2.1, zm_f5.2.2, Or.inl ⟨_, zw_755, Or.inl rfl⟩⟩, zm_okw_n rfl rfl⟩, List.forall_mem_cons.mpr ⟨trivial, List.forall_mem_cons.mpr ⟨⟨_, _, _, rfl, by decide, zm_f5.1, zm_f5.2.1, zm_f5.2.2, Or.inl ⟨_, zw_735, Or.inl rfl⟩⟩, List.forall_mem_cons.mpr ⟨trivial, List.forall_mem_cons.mpr ⟨trivial, List.forall_mem_cons.mpr ⟨trivial, List.forall_mem_cons.mpr ⟨trivial, List.forall_mem_cons.mpr ⟨⟨_, _, _, rfl, by decide, zm_f5.1, zm_f5.2.1, zm_f5.2.2, Or.inl ⟨_, zw_750, Or.inl rfl⟩⟩, List.forall_mem_cons.mpr ⟨trivial, List.forall_mem_cons.mpr ⟨⟨_, _, _, rfl, by decide, zm_f5.1, zm_f5.2.1, zm_f5.2.2, Or.inl ⟨_, zw_751, Or.inl rfl⟩⟩, List.forall_mem_cons.mpr ⟨trivial, List.forall_mem_cons.mpr ⟨trivial, List.forall_mem_cons.mpr ⟨trivial, List.forall_mem_cons.mpr ⟨⟨_, _, _, rfl, by decide, zm_f5.1, zm_f5.2.1, zm_f5.2.2, Or.inl ⟨_, zw_748, Or.inl rfl⟩⟩, List.forall_mem_cons.mpr ⟨trivial, List.forall_mem_cons.mpr ⟨⟨_, _, _, rfl, by decide, zm_f5.1, zm_f5.2.1, zm_f5.2.2, Or.inl ⟨_, zw_751, Or.inl rfl⟩⟩, List.forall_mem_cons.mpr ⟨trivial, List.forall_mem_cons.mpr ⟨trivial, List.forall_mem_cons.mpr ⟨trivial, List.forall_mem_cons.mpr ⟨trivial, List.forall_mem_cons.mpr ⟨⟨_, _, _, rfl, by decide, zm_f5.1, zm_f5.2.1, zm_f5.2.2, Or.inl ⟨_, zw_733, Or.inl rfl⟩⟩, List.forall_mem_cons.mpr ⟨trivial, List.forall_mem_cons.mpr ⟨trivial, List.forall_mem_cons.mpr ⟨trivial, List.forall_mem_cons.mpr ⟨⟨_, _, _, rfl, by decide, zm_f5.1, zm_f5.2.1, zm_f5.2.2, Or.inl ⟨_, zw_734, Or.inl rfl⟩⟩, List.forall_mem_cons.mpr ⟨trivial, List.forall_mem_cons.mpr ⟨trivial, List.forall_mem_cons.mpr ⟨trivial, List.forall_mem_cons.mpr ⟨trivial, fun _ h => absurd h List.not_mem_nil⟩⟩⟩⟩⟩⟩⟩⟩⟩⟩⟩⟩⟩⟩⟩⟩⟩⟩⟩⟩⟩⟩⟩⟩⟩⟩⟩⟩⟩⟩⟩⟩⟩⟩⟩⟩⟩⟩⟩⟩⟩⟩⟩⟩⟩⟩⟩⟩⟩⟩⟩⟩⟩⟩⟩⟩⟩⟩⟩⟩
set_option maxRecDepth 100000 in
theorem zq_98 : ∀ e ∈ zm_c98, zm_okq 98 e.2 := List.forall_mem_cons.mpr ⟨trivial, List.forall_mem_cons.mpr ⟨⟨_, _, _, rfl, by decide, zm_f5.1, zm_f5.2.1, zm_f5.2.2, Or.inl ⟨_, zw_757, Or.inl rfl⟩⟩, List.forall_mem_cons.mpr ⟨trivial, List.forall_mem_cons.mpr ⟨trivial, List.forall_mem_cons.mpr ⟨trivial, List.forall_mem_cons.mpr ⟨⟨⟨_, _, _, rfl, by decide, zm_f5.1, zm_f5.2.1, zm_f5.2.2, Or.inl ⟨_, zw_732, Or.inl rfl⟩⟩, zm_okw_n rfl rfl⟩, List.forall_mem_cons.mpr ⟨trivial, List.forall_mem_cons.mpr ⟨⟨_, _, _, rfl, by decide, zm_f5.1, zm_f5.2.1, zm_f5.2.2, Or.inl ⟨_, zw_732, Or.inl rfl⟩⟩, List.forall_mem_cons.mpr ⟨trivial, List.forall_mem_cons.mpr ⟨trivial, List.forall_mem_cons.mpr ⟨trivial, List.forall_mem_cons.mpr ⟨trivial, List.forall_mem_cons.mpr ⟨trivial, fun _ h => absurd h List.not_mem_nil⟩⟩⟩⟩⟩⟩⟩⟩⟩⟩⟩⟩⟩
set_option maxRecDepth 100000 in
theorem zq_99 : ∀ e ∈ zm_c99, zm_okq 99 e.2 := List.forall_mem_cons.mpr ⟨trivial, List.forall_mem_cons.mpr ⟨trivial, List.forall_mem_cons.mpr ⟨trivial, List.forall_mem_cons.mpr ⟨trivial, List.forall_mem_cons.mpr ⟨trivial, List.forall_mem_cons.mpr ⟨trivial, List.forall_mem_cons.mpr ⟨trivial, List.forall_mem_cons.mpr ⟨trivial, List.forall_mem_cons.mpr ⟨trivial, List.forall_mem_cons.mpr ⟨trivial, List.forall_mem_cons.mpr ⟨trivial, List.forall_mem_cons.mpr ⟨trivial, List.forall_mem_cons.mpr ⟨trivial, List.forall_mem_cons.mpr ⟨trivial, List.forall_mem_cons.mpr ⟨trivial, List.forall_mem_cons.mpr ⟨trivial, List.forall_mem_cons.mpr ⟨trivial, List.forall_mem_cons.mpr ⟨trivial, List.forall_mem_cons.mpr ⟨trivial, List.forall_mem_cons.mpr ⟨trivial, List.forall_mem_cons.mpr ⟨trivial, List.forall_mem_cons.mpr ⟨trivial, List.forall_mem_cons.mpr ⟨trivial, List.forall_mem_cons.mpr ⟨trivial, List.forall_mem_cons.mpr ⟨trivial, List.forall_mem_cons.mpr ⟨trivial, List.forall_mem_cons.mpr ⟨trivial, List.forall_mem_cons.mpr ⟨trivial, List.forall_mem_cons.mpr ⟨trivial, List.forall_mem_cons.mpr ⟨trivial, List.forall_mem_cons.mpr ⟨trivial, List.forall_mem_cons.mpr ⟨trivial, List.forall_mem_cons.mpr ⟨trivial, List.forall_mem_cons.mpr ⟨trivial, List.forall_mem_cons.mpr ⟨trivial, List.forall_mem_cons.mpr ⟨trivial, List.forall_mem_cons.mpr ⟨trivial, List.forall_mem_cons.mpr ⟨trivial, List.forall_mem_cons.mpr ⟨trivial, List.forall_mem_cons.mpr ⟨trivial, List.forall_mem_cons.mpr ⟨trivial, List.forall_mem_cons.mpr ⟨trivial, List.forall_mem_cons.mpr ⟨trivial, List.forall_mem_cons.mpr ⟨trivial, List.forall_mem_cons.mpr ⟨trivial, List.forall_mem_cons.mpr ⟨trivial, List.forall_mem_cons.mpr ⟨trivial, List.forall_mem_cons.mpr ⟨trivial, fun _ h => absurd h List.not_mem_nil⟩⟩⟩⟩⟩⟩⟩⟩⟩⟩⟩⟩⟩⟩⟩⟩⟩⟩⟩⟩⟩⟩⟩⟩⟩⟩⟩⟩⟩⟩⟩⟩⟩⟩⟩⟩⟩⟩⟩⟩⟩⟩⟩⟩⟩⟩⟩⟩
set_option maxRecDepth 100000 in
theorem zq_100 : ∀ e ∈ zm_c100, zm_okq 100 e.2 := List.forall_mem_cons.mpr ⟨trivial, List.forall_mem_cons.mpr ⟨⟨_, _, _, rfl, by decide, zm_f5.1, zm_f5.2.1, zm_f5.2.2, Or.inl ⟨_, zw_727, Or.inl rfl⟩⟩, List.forall_mem_cons.mpr ⟨trivial, List.forall_mem_cons.mpr ⟨trivial, List.forall_mem_cons.mpr ⟨trivial, List.forall_mem_cons.mpr ⟨trivial, List.forall_mem_cons.mpr ⟨trivial, List.forall_mem_cons.mpr ⟨⟨⟨_, _, _, rfl, by decide, zm_f5.1, zm_f5.2.1, zm_f5.2.2, Or.inl ⟨_, zw_732, Or.inl rfl⟩⟩, zm_okw_n rfl rfl⟩, List.forall_mem_cons.mpr ⟨trivial, List.forall_mem_cons.mpr ⟨trivial, List.forall_mem_cons.mpr ⟨⟨_, _, _, rfl, by decide, zm_f5.1, zm_f5.2.1, zm_f5.2.2, Or.inl ⟨_, zw_725, Or.inl rfl⟩⟩, List.forall_mem_cons.mpr ⟨trivial, List.forall_mem_cons.mpr ⟨trivial, List.forall_mem_cons.mpr ⟨trivial, List.forall_mem_cons.mpr ⟨trivial, List.forall_mem_cons.mpr ⟨trivial, List.forall_mem_cons.mpr ⟨trivial, List.forall_mem_cons.mpr ⟨trivial, List.forall_mem_cons.mpr ⟨trivial, List.forall_mem_cons.mpr ⟨trivial, List.forall_mem_cons.mpr ⟨trivial, List.forall_mem_cons.mpr ⟨trivial, List.forall_mem_cons.mpr ⟨trivial, List.forall_mem_cons.mpr ⟨trivial, List.forall_mem_cons.mpr ⟨trivial, List.forall_mem_cons.mpr ⟨trivial, fun _ h => absurd h List.not_mem_nil⟩⟩⟩⟩⟩⟩⟩⟩⟩⟩⟩⟩⟩⟩⟩⟩⟩⟩⟩⟩⟩⟩⟩⟩⟩⟩
set_option maxRecDepth 100000 in
theorem zq_101 : ∀ e ∈ zm_c101, zm_okq 101 e.2 := List.forall_mem_cons.mpr ⟨trivial, List.forall_mem_cons.mpr ⟨trivial, List.forall_mem_cons.mpr ⟨⟨_, _, _, rfl, by decide, zm_f5.1, zm_f5.2.1, zm_f5.2.2, Or.inl ⟨_, zw_732, Or.inl rfl⟩⟩, List.forall_mem_cons.mpr ⟨trivial, List.forall_mem_cons.mpr ⟨trivial, List.forall_mem_cons.mpr ⟨trivial, List.forall_mem_cons.mpr ⟨trivial, List.forall_mem_cons.mpr ⟨⟨⟨_, _, _, rfl, by decide, zm_f5.1, zm_f5.2.1, zm_f5.2.2, Or.inl ⟨_, zw_763, Or.inl rfl⟩⟩, zm_okw_n rfl rfl⟩, List.forall_mem_cons.mpr ⟨trivial, List.forall_mem_cons.mpr ⟨⟨_, _, _, rfl, by decide, zm_f5.1, zm_f5.2.1, zm_f5.2.2, Or.inl ⟨_, zw_763, Or.inl rfl⟩⟩, List.forall_mem_cons.mpr ⟨trivial, List.forall_mem_cons.mpr ⟨trivial, List.forall_mem_cons.mpr ⟨trivial, List.forall_mem_cons.mpr ⟨trivial, List.forall_mem_cons.mpr ⟨trivial, List.forall_mem_cons.mpr ⟨⟨_, _, _, rfl, by decide, zm_f5.1, zm_f5.2.1, zm_f5.2.2, Or.inl ⟨_, zw_757, Or.inl rfl⟩⟩, List.forall_mem_cons.mpr ⟨⟨⟨_, _, _, rfl, by decide, zm_f5.1, zm_f5.2.1, zm_f5.2.2, Or.inl ⟨_, zw_760, Or.inl rfl⟩⟩, zm_okw_n rfl rfl⟩, List.forall_mem_cons.mpr ⟨trivial, List.forall_mem_cons.mpr ⟨trivial, List.forall_mem_cons.mpr ⟨⟨_, _, _, rfl, by decide, zm_f5.1, zm_f5.2.1, zm_f5.2.2, Or.inl ⟨_, zw_758, Or.inl rfl⟩⟩, List.forall_mem_cons.mpr ⟨⟨⟨_, _, _, rfl, by decide, zm_f5.1, zm_f5.2.1, zm_f5.2.2, Or.inl ⟨_, zw_761, Or.inl rfl⟩⟩, zm_okw_n rfl rfl⟩, List.forall_mem_cons.mpr ⟨trivial, List.forall_mem_cons.mpr ⟨trivial, List.forall_mem_cons.mpr ⟨⟨_, _, _, rfl, by decide, zm_f5.1, zm_f5.2.1, zm_f5.2.2, Or.inl ⟨_, zw_759, Or.inl rfl⟩⟩, List.forall_mem_cons.mpr ⟨⟨⟨_, _, _, rfl, by decide, zm_f5.1, zm_f5.2.1, zm_f5.2.2, Or.inl ⟨_, zw_762, Or.inl rfl⟩⟩, zm_okw_n rfl rfl⟩, List.forall_mem_cons.mpr ⟨trivial, List.forall_mem_cons.mpr ⟨⟨_, _, _, rfl, by decide, zm_f5.1, zm_f5.2.1, zm_f5.2.2, Or.inl ⟨_, zw_760, Or.inl rfl⟩⟩, List.forall_mem_cons.mpr ⟨trivial, fun _ h => absurd h List.not_mem_nil⟩⟩⟩⟩⟩⟩⟩⟩⟩⟩⟩⟩⟩⟩⟩⟩⟩⟩⟩⟩⟩⟩⟩⟩⟩⟩⟩⟩
set_option maxRecDepth 100000 in
theorem zq_102 : ∀ e ∈ zm_c102, zm_okq 102 e.2 := List.forall_mem_cons.mpr ⟨trivial, List.forall_mem_cons.mpr ⟨trivial, List.forall_mem_cons.mpr ⟨⟨_, _, _, rfl, by decide, zm_f5.1, zm_f5.2.1, zm_f5.2.2, Or.inl ⟨_, zw_763, Or.inl rfl⟩⟩, List.forall_mem_cons.mpr ⟨trivial, List.forall_mem_cons.mpr ⟨trivial, List.forall_mem_cons.mpr ⟨trivial, List.forall_mem_cons.mpr ⟨trivial, List.forall_mem_cons.mpr ⟨⟨_, _, _, rfl, by decide, zm_f5.1, zm_f5.2.1, zm_f5.2.2, Or.inl ⟨_, zw_760, Or.inl rfl⟩⟩, List.forall_mem_cons.mpr ⟨trivial, List.forall_mem_cons.mpr ⟨trivial, List.forall_mem_cons.mpr ⟨trivial, List.forall_mem_cons.mpr ⟨trivial, List.forall_mem_cons.mpr ⟨⟨⟨_, _, _, rfl, by decide, zm_f5.1, zm_f5.2.1, zm_f5.2.2, Or.inl ⟨_, zw_732, Or.inl rfl⟩⟩, zm_okw_n rfl rfl⟩, List.forall_mem_cons.mpr ⟨trivial, List.forall_mem_cons.mpr ⟨⟨_, _, _, rfl, by decide, zm_f5.1, zm_f5.2.1, zm_f5.2.2, Or.inl ⟨_, zw_732, Or.inl rfl⟩⟩, List.forall_mem_cons.mpr ⟨trivial, List.forall_mem_cons.mpr ⟨trivial, List.forall_mem_cons.mpr ⟨trivial, List.forall_mem_cons.mpr ⟨trivial, List.forall_mem_cons.mpr ⟨⟨_, _, _, rfl, by decide, zm_f5.1, zm_f5.2.1, zm_f5.2.2, Or.inl ⟨_, zw_761, Or.inl rfl⟩⟩, List.forall_mem_cons.mpr ⟨trivial, fun _ h => absurd h List.not_mem_nil⟩⟩⟩⟩⟩⟩⟩⟩⟩⟩⟩⟩⟩⟩⟩⟩⟩⟩⟩⟩⟩
set_option maxRecDepth 100000 in
theorem zq_103 : ∀ e ∈ zm_c103, zm_okq 103 e.2 := List.forall_mem_cons.mpr ⟨trivial, List.forall_mem_cons.mpr ⟨trivial, List.forall_mem_cons.mpr ⟨trivial, List.forall_mem_cons.mpr ⟨trivial, List.forall_mem_cons.mpr ⟨trivial, List.forall_mem_cons.mpr ⟨⟨_, _, _, rfl, by decide, zm_f5.1, zm_f5.2.1, zm_f5.2.2, Or.inl ⟨_, zw_758, Or.inl rfl⟩⟩, List.forall_mem_cons.mpr ⟨trivial, List.forall_mem_cons.mpr ⟨trivial, List.forall_mem_cons.mpr ⟨trivial, fun _ h => absurd h List.not_mem_nil⟩⟩⟩⟩⟩⟩⟩⟩⟩
set_option maxRecDepth 100000 in
theorem zq_104 : ∀ e ∈ zm_c104, zm_okq 104 e.2 := List.forall_mem_cons.mpr ⟨trivial, List.forall_mem_cons.mpr ⟨trivial, List.forall_mem_cons.mpr ⟨⟨_, _, _, rfl, by decide, zm_f5.1, zm_f5.2.1, zm_f5.2.2, Or.inl ⟨_, zw_763, Or.inl rfl⟩⟩, List.forall_mem_cons.mpr ⟨trivial, List.forall_mem_cons.mpr ⟨trivial, List.forall_mem_cons.mpr ⟨⟨_, _, _, rfl, by decide, zm_f5.1, zm_f5.2.1, zm_f5.2.2, Or.inl ⟨_, zw_760, Or.inl rfl⟩⟩, List.forall_mem_cons.mpr ⟨trivial, List.forall_mem_cons.mpr ⟨trivial, List.forall_mem_cons.mpr ⟨trivial, List.forall_mem_cons.mpr ⟨trivial, List.forall_mem_cons.mpr ⟨trivial, List.forall_mem_cons.mpr ⟨⟨_, _, _, rfl, by decide, zm_f5.1, zm_f5.2.1, zm_f5.2.2, Or.inl ⟨_, zw_760, Or.inl rfl⟩⟩, List.forall_mem_cons.mpr ⟨trivial, List.forall_mem_cons.mpr ⟨trivial, List.forall_mem_cons.mpr ⟨trivial, List.forall_mem_cons.mpr ⟨trivial, List.forall_mem_cons.mpr ⟨trivial, List.forall_mem_cons.mpr ⟨⟨⟨_, _, _, rfl, by decide, zm_f5.1, zm_f5.2.1, zm_f5.2.2, Or.inl ⟨_, zw_732, Or.inl rfl⟩⟩, zm_okw_n rfl rfl⟩, List.forall_mem_cons.mpr ⟨trivial, List.forall_mem_cons.mpr ⟨⟨_, _, _, rfl, by decide, zm_f5.1, zm_f5.2.1, zm_f5.2.2, Or.inl ⟨_, zw_732, Or.inl rfl⟩⟩, List.forall_mem_cons.mpr ⟨trivial, List.forall_mem_cons.mpr ⟨trivial, List.forall_mem_cons.mpr ⟨trivial, List.forall_mem_cons.mpr ⟨trivial, List.forall_mem_cons.mpr ⟨⟨_, _, _, rfl, by decide, zm_f5.1, zm_f5.2.1, zm_f5.2.2, Or.inl ⟨_, zw_761, Or.inl rfl⟩⟩, List.forall_mem_cons.mpr ⟨trivial, List.forall_mem_cons.mpr ⟨trivial, List.forall_mem_cons.mpr ⟨⟨_, _, _, rfl, by decide, zm_f5.1, zm_f5.2.1, zm_f5.2.2, Or.inl ⟨_, zw_762, Or.inl rfl⟩⟩, List.forall_mem_cons.mpr ⟨trivial, List.forall_mem_cons.mpr ⟨trivial, List.forall_mem_cons.mpr ⟨⟨_, _, _, rfl, by decide, zm_f5.1, zm_f5.2.1, zm_f5.2.2, Or.inl ⟨_, zw_735, Or.inl rfl⟩⟩, List.forall_mem_cons.mpr ⟨trivial, List.forall_mem_cons.mpr ⟨trivial, List.forall_mem_cons.mpr ⟨trivial, List.forall_mem_cons.mpr ⟨trivial, List.forall_mem_cons.mpr ⟨trivial, List.forall_mem_cons.mpr ⟨trivial, List.forall_mem_cons.mpr ⟨⟨_, _, _, rfl, by decide, zm_f5.1, zm_f5.2.1, zm_f5.2.2, Or.inl ⟨_, zw_756, Or.inl rfl⟩⟩, List.forall_mem_cons.mpr ⟨trivial, List.forall_mem_cons.mpr ⟨trivial, List.forall_mem_cons.mpr ⟨⟨⟨_, _, _, rfl, by decide, zm_f5.1, zm_f5.2.1, zm_f5.2.2, Or.inl ⟨_, zw_756, Or.inl rfl⟩⟩, zm_okw_n rfl rfl⟩, List.forall_mem_cons.mpr ⟨trivial, List.forall_mem_cons.mpr ⟨trivial, List.forall_mem_cons.mpr ⟨trivial, List.forall_mem_cons.mpr ⟨⟨_, _, _, rfl, by decide, zm_f5.1, zm_f5.2.1, zm_f5.2.2, Or.inl ⟨_, zw_755, Or.inl rfl⟩⟩, List.forall_mem_cons.mpr ⟨trivial, List.forall_mem_cons.mpr ⟨trivial, List.forall_mem_cons.mpr ⟨⟨⟨_, _, _, rfl, by decide, zm_f5.1, zm_f5.2.1, zm_f5.2.2, Or.inl ⟨_, zw_755, Or.inl rfl⟩⟩, zm_okw_n rfl rfl⟩, List.forall_mem_cons.mpr ⟨trivial, List.forall_mem_cons.mpr ⟨⟨_, _, _, rfl, by decide, zm_f5.1, zm_f5.2.1, zm_f5.2.2, Or.inl ⟨_, zw_735, Or.inl rfl⟩⟩, List.forall_mem_cons.mpr ⟨trivial, List.forall_mem_cons.mpr ⟨trivial, List.forall_mem_cons.mpr ⟨trivial, List.forall_mem_cons.mpr ⟨trivial, List.forall_mem_cons.mpr ⟨trivial, List.forall_mem_cons.mpr ⟨⟨_, _, _, rfl, by decide, zm_f5.1, zm_f5.2.1, zm_f5.2.2, Or.inl ⟨_, zw_733, Or.inl rfl⟩⟩, List.forall_mem_cons.mpr ⟨trivial, List.forall_mem_cons.mpr ⟨trivial, List.forall_mem_cons.mpr ⟨trivial, List.forall_mem_cons.mpr ⟨⟨_, _, _, rfl, by decide, zm_f5.1, zm_f5.2.1, zm_f5.2.2, Or.inl ⟨_, zw_734, Or.inl rfl⟩⟩, List.forall_mem_cons.mpr ⟨trivial, List.forall_mem_cons.mpr ⟨trivial, List.forall_mem_cons.mpr ⟨trivial, List.forall_mem_cons.mpr ⟨trivial, List.forall_mem_cons.mpr ⟨⟨_, _, _, rfl, by decide, zm_f5.1, zm_f5.2.1, zm_f5.2.2, Or.inl ⟨_, zw_735, Or.inl rfl⟩⟩, List.forall_mem_cons.mpr ⟨trivial, List.forall_mem_cons.mpr ⟨trivial, List.forall_mem_cons.mpr ⟨trivial, List.forall_mem_cons.mpr ⟨trivial, List.forall_mem_cons.mpr ⟨⟨_, _, _, rfl, by decide, zm_f5.1, zm_f5.2.1, zm_f5.2.2, Or.inl ⟨_, zw_736, Or.inl rfl⟩⟩, List.forall_mem_cons.mpr ⟨trivial, List.forall_mem_cons.mpr ⟨trivial, List.forall_mem_cons.mpr ⟨⟨_, _, _, rfl, by decide, zm_f5.1, zm_f5.2.1, zm_f5.2.2, Or.inl ⟨_, zw_757, Or.inl rfl⟩⟩, List.forall_mem_cons.mpr ⟨trivial, List.forall_mem_cons.mpr ⟨trivial, List.forall_mem_cons.mpr ⟨⟨_, _, _, rfl, by decide, zm_f5.1, zm_f5.2.1, zm_f5.2.2, Or.inl ⟨_, zw_737, Or.inl rfl⟩⟩, List.forall_mem_cons.mpr ⟨trivial, List.forall_mem_cons.mpr ⟨trivial, List.forall_mem_cons.mpr ⟨⟨_, _, _, rfl, by decide, zm_f5.1, zm_f5.2.1, zm_f5.2.2, Or.inl ⟨_, zw_758, Or.inl rfl⟩⟩, List.forall_mem_cons.mpr ⟨trivial, List.forall_mem_cons.mpr ⟨trivial, List.forall_mem_cons.mpr ⟨⟨_, _, _, rfl, by decide, zm_f5.1, zm_f5.2.1, zm_f5.2.2, Or.inl ⟨_, zw_738, Or.inl rfl⟩⟩, List.forall_mem_cons.mpr ⟨trivial, List.forall_mem_cons.mpr ⟨trivial, List.forall_mem_cons.mpr ⟨⟨_, _, _, rfl, by decide, zm_f5.1, zm_f5.2.1, zm_f5.2.2, Or.inl ⟨_, zw_759, Or.inl rfl⟩⟩, List.forall_mem_cons.mpr ⟨trivial, List.forall_mem_cons.mpr ⟨trivial, List.forall_mem_cons.mpr ⟨trivial, List.forall_mem_cons.mpr ⟨⟨_, _, _, rfl, by decide, zm_f5.1, zm_f5.2.1, zm_f5.2.2, Or.inl ⟨_, zw_736, Or.inl rfl⟩⟩, List.forall_mem_cons.mpr ⟨trivial, List.forall_mem_cons.mpr ⟨trivial, List.forall_mem_cons.mpr ⟨⟨⟨_, _, _, rfl, by decide, zm_f5.1, zm_f5.2.1, zm_f5.2.2, Or.inl ⟨_, zw_757, Or.inl rfl⟩⟩, zm_okw_n rfl rfl⟩, List.forall_mem_cons.mpr ⟨trivial, List.forall_mem_cons.mpr ⟨trivial, List.forall_mem_cons.mpr ⟨⟨_, _, _, rfl, by decide, zm_f5.1, zm_f5.2.1, zm_f5.2.2, Or.inl ⟨_, zw_737, Or.inl rfl⟩⟩, List.forall_mem_cons.mpr ⟨trivial, List.forall_mem_cons.mpr ⟨trivial, List.forall_mem_cons.mpr ⟨⟨⟨_, _, _, rfl, by decide, zm_f5.1, zm_f5.2.1, zm_f5.2.2, Or.inl ⟨_, zw_758, Or.inl rfl⟩⟩, zm_okw_n rfl rfl⟩, List.forall_mem_cons.mpr ⟨trivial, List.forall_mem_cons.mpr ⟨trivial, List.forall_mem_cons.mpr ⟨⟨_, _, _, rfl, by decide, zm_f5.1, zm_f5.2.1, zm_f5.2.2, Or.inl ⟨_, zw_738, Or.inl rfl⟩⟩, List.forall_mem_cons.mpr ⟨trivial, List.forall_mem_cons.mpr ⟨trivial, List.forall_mem_cons.mpr ⟨⟨⟨_, _, _, rfl, by decide, zm_f5.1, zm_f5.2.1, zm_f5.2.2, Or.inl ⟨_, zw_759, Or.inl rfl⟩⟩, zm_okw_n rfl rfl⟩, List.forall_mem_cons.mpr ⟨trivial, List.forall_mem_cons.mpr ⟨⟨_, _, _, rfl, by decide, zm_f5.1, zm_f5.2.1, zm_f5.2.2, Or.inl ⟨_, zw_732, Or.inl rfl⟩⟩, List.forall_mem_cons.mpr ⟨trivial, List.forall_mem_cons.mpr ⟨trivial, List.forall_mem_cons.mpr ⟨trivial, List.forall_mem_cons.mpr ⟨trivial, List.forall_mem_cons.mpr ⟨⟨_, _, _, rfl, by decide, zm_f5.1, zm_f5.2.1, zm_f5.2.2, Or.inl ⟨_, zw_757, Or.inl rfl⟩⟩, List.forall_mem_cons.mpr ⟨trivial, List.forall_mem_cons.mpr ⟨trivial, List.forall_mem_cons.mpr ⟨trivial, List.forall_mem_cons.mpr ⟨⟨⟨_, _, _, rfl, by decide, zm_f5.1, zm_f5.2.1, zm_f5.2.2, Or.inl ⟨_, zw_732, Or.inl rfl⟩⟩, zm_okw_n rfl rfl⟩, List.forall_mem_cons.mpr ⟨trivial, List.forall_mem_cons.mpr ⟨⟨_, _, _, rfl, by decide, zm_f5.1, zm_f5.2.1, zm_f5.2.2, Or.inl ⟨_, zw_732, Or.inl rfl⟩⟩, List.forall_mem_cons.mpr ⟨trivial, List.forall_mem_cons.mpr ⟨trivial, List.forall_mem_cons.mpr ⟨trivial, List.forall_mem_cons.mpr ⟨trivial, List.forall_mem_cons.mpr ⟨trivial, List.forall_mem_cons.mpr ⟨⟨_, _, _, rfl, by decide, zm_f5.1, zm_f5.2.1, zm_f5.2.2, Or.inl ⟨_, zw_732, Or.inl rfl⟩⟩, List.forall_mem_cons.mpr ⟨trivial, List.forall_mem_cons.mpr ⟨trivial, List.forall_mem_cons.mpr ⟨⟨⟨_, _, _, rfl, by decide, zm_f5.1, zm_f5.2.1, zm_f5.2.2, Or.inl ⟨_, zw_732, Or.inl rfl⟩⟩, zm_okw_n rfl rfl⟩, List.forall_mem_cons.mpr ⟨trivial, List.forall_mem_cons.mpr ⟨trivial, List.forall_mem_cons.mpr ⟨⟨⟨_, _, _, rfl, by decide, zm_f5.1, zm_f5.2.1, zm_f5.2.2, Or.inl ⟨_, zw_763, Or.inl rfl⟩⟩, zm_okw_n rfl rfl⟩, List.forall_mem_cons.mpr ⟨trivial, List.forall_mem_cons.mpr ⟨trivial, fun _ h => absurd h List.not_mem_nil⟩⟩⟩⟩⟩⟩⟩⟩⟩⟩⟩⟩⟩⟩⟩⟩⟩⟩⟩⟩⟩⟩⟩⟩⟩⟩⟩⟩⟩⟩⟩⟩⟩⟩⟩⟩⟩⟩⟩⟩⟩⟩⟩⟩⟩⟩⟩⟩⟩⟩⟩⟩⟩⟩⟩⟩⟩⟩⟩⟩⟩⟩⟩⟩⟩⟩⟩⟩⟩⟩⟩⟩⟩⟩⟩⟩⟩⟩⟩⟩⟩⟩⟩⟩⟩⟩⟩⟩⟩⟩⟩⟩⟩⟩⟩⟩⟩⟩⟩⟩⟩⟩⟩⟩⟩⟩⟩⟩⟩⟩⟩⟩⟩⟩⟩⟩⟩⟩⟩⟩⟩⟩⟩⟩⟩⟩⟩⟩⟩⟩⟩
set_option maxRecDepth 100000 in
theorem zq_105 : ∀ e ∈ zm_c105, zm_okq 105 e.2 := List.forall_mem_cons.mpr ⟨trivial, List.forall_mem_cons.mpr ⟨trivial, List.forall_mem_cons.mpr ⟨trivial, List.forall_mem_cons.mpr ⟨trivial, List.forall_mem_cons.mpr ⟨trivial, List.forall_mem_cons.mpr ⟨trivial, List.forall_mem_cons.mpr ⟨trivial, List.forall_mem_cons.mpr ⟨trivial, List.forall_mem_cons.mpr ⟨trivial, fun _ h => absurd h List.not_mem_nil⟩⟩⟩⟩⟩⟩⟩⟩⟩
set_option maxRecDepth 100000 in
theorem zq_106 : ∀ e ∈ zm_c106, zm_okq 106 e.2 := List.forall_mem_cons.mpr ⟨trivial, List.forall_mem_cons.mpr ⟨trivial, List.forall_mem_cons.mpr ⟨trivial, List.forall_mem_cons.mpr ⟨trivial, List.forall_mem_cons.mpr ⟨trivial, List.forall_mem_cons.mpr ⟨trivial, List.forall_mem_cons.mpr ⟨trivial, List.forall_mem_cons.mpr ⟨trivial, List.forall_mem_cons.mpr ⟨trivial, List.forall_mem_cons.mpr ⟨⟨_, _, _, rfl, by decide, zm_f5.1, zm_f5.2.1, zm_f5.2.2, Or.inl ⟨_, zw_727, Or.inl rfl⟩⟩, List.forall_mem_cons.mpr ⟨trivial, List.forall_mem_cons.mpr ⟨trivial, List.forall_mem_cons.mpr ⟨trivial, List.forall_mem_cons.mpr ⟨trivial, List.forall_mem_cons.mpr ⟨trivial, List.forall_mem_cons.mpr ⟨⟨⟨_, _, _, rfl, by decide, zm_f5.1, zm_f5.2.1, zm_f5.2.2, Or.inl ⟨_, zw_732, Or.inl rfl⟩⟩, zm_okw_n rfl rfl⟩, List.forall_mem_cons.mpr ⟨trivial, List.forall_mem_cons.mpr ⟨⟨_, _, _, rfl, by decide, zm_f5.1, zm_f5.2.1, zm_f5.2.2, Or.inl ⟨_, zw_727, Or.inl rfl⟩⟩, List.forall_mem_cons.mpr ⟨trivial, List.forall_mem_cons.mpr ⟨trivial, List.forall_mem_cons.mpr ⟨trivial, List.forall_mem_cons.mpr ⟨trivial, fun _ h => absurd h List.not_mem_nil⟩⟩⟩⟩⟩⟩⟩⟩⟩⟩⟩⟩⟩⟩⟩⟩⟩⟩⟩⟩⟩⟩
set_option maxRecDepth 100000 in
theorem zq_107 : ∀ e ∈ zm_c107, zm_okq 107 e.2 := List.forall_mem_cons.mpr ⟨trivial, List.forall_mem_cons.mpr ⟨trivial, List.forall_mem_cons.mpr ⟨⟨⟨_, _, _, rfl, by decide, zm_f5.1, zm_f5.2.1, zm_f5.2.2, Or.inl ⟨_, zw_732, Or.inl rfl⟩⟩, zm_okw_n rfl rfl⟩, List.forall_mem_cons.mpr ⟨trivial, List.forall_mem_cons.mpr ⟨trivial, List.forall_mem_cons.mpr ⟨trivial, List.forall_mem_cons.mpr ⟨trivial, List.forall_mem_cons.mpr ⟨trivial, List.forall_mem_cons.mpr ⟨trivial, List.forall_mem_cons.mpr ⟨trivial, List.forall_mem_cons.mpr ⟨trivial, List.forall_mem_cons.mpr ⟨⟨_, _, _, rfl, by decide, zm_f5.1, zm_f5.2.1, zm_f5.2.2, Or.inl ⟨_, zw_727, Or.inl rfl⟩⟩, List.forall_mem_cons.mpr ⟨trivial, List.forall_mem_cons.mpr ⟨trivial, List.forall_mem_cons.mpr ⟨trivial, List.forall_mem_cons.mpr ⟨trivial, List.forall_mem_cons.mpr ⟨trivial, List.forall_mem_cons.mpr ⟨trivial, List.forall_mem_cons.mpr ⟨trivial, List.forall_mem_cons.mpr ⟨trivial, List.forall_mem_cons.mpr ⟨trivial, List.forall_mem_cons.mpr ⟨⟨_, _, _, rfl, by decide, zm_f5.1, zm_f5.2.1, zm_f5.2.2, Or.inl ⟨_, zw_729, Or.inl rfl⟩⟩, List.forall_mem_cons.mpr ⟨trivial, List.forall_mem_cons.mpr ⟨trivial, List.forall_mem_cons.mpr ⟨⟨_, _, _, rfl, by decide, zm_f5.1, zm_f5.2.1, zm_f5.2.2, Or.inl ⟨_, zw_728, Or.inl rfl⟩⟩, List.forall_mem_cons.mpr ⟨trivial, List.forall_mem_cons.mpr ⟨trivial, List.forall_mem_cons.mpr ⟨trivial, List.forall_mem_cons.mpr ⟨trivial, List.forall_mem_cons.mpr ⟨⟨_, _, _, rfl, by decide, zm_f5.1, zm_f5.2.1, zm_f5.2.2, Or.inl ⟨_, zw_753, Or.inl rfl⟩⟩, List.forall_mem_cons.mpr ⟨trivial, List.forall_mem_cons.mpr ⟨trivial, List.forall_mem_cons.mpr ⟨⟨_, _, _, rfl, by decide, zm_f5.1, zm_f5.2.1, zm_f5.2.2, Or.inl ⟨_, zw_754, Or.inl rfl⟩⟩, List.forall_mem_cons.mpr ⟨trivial, List.forall_mem_cons.mpr ⟨trivial, List.forall_mem_cons.mpr ⟨⟨_, _, _, rfl, by decide, zm_f5.1, zm_f5.2.1, zm_f5.2.2, Or.inl ⟨_, zw_755, Or.inl rfl⟩⟩, List.forall_mem_cons.mpr ⟨trivial, List.forall_mem_cons.mpr ⟨trivial, List.forall_mem_cons.mpr ⟨⟨_, _, _, rfl, by decide, zm_f5.1, zm_f5.2.1, zm_f5.2.2, Or.inl ⟨_, zw_756, Or.inl rfl⟩⟩, List.forall_mem_cons.mpr ⟨trivial, List.forall_mem_cons.mpr ⟨trivial, List.forall_mem_cons.mpr ⟨⟨_, _, _, rfl, by decide, zm_f5.1, zm_f5.2.1, zm_f5.2.2, Or.inl ⟨_, zw_752, Or.inl rfl⟩⟩, List.forall_mem_cons.mpr ⟨trivial, List.forall_mem_cons.mpr ⟨trivial, List.forall_mem_cons.mpr ⟨trivial, fun _ h => absurd h List.not_mem_nil⟩⟩⟩⟩⟩⟩⟩⟩⟩⟩⟩⟩⟩⟩⟩⟩⟩⟩⟩⟩⟩⟩⟩⟩⟩⟩⟩⟩⟩⟩⟩⟩⟩⟩⟩⟩⟩⟩⟩⟩⟩⟩⟩⟩⟩
end
section
theorem zk_1 : zm_okm 1 := ⟨by decide +kernel, Or.inl ⟨zw_31, rfl⟩⟩
theorem zk_3 : zm_okm 3 := ⟨by decide +kernel, Or.inl ⟨zw_39, rfl⟩⟩
theorem zk_4 : zm_okm 4 := ⟨by decide +kernel, Or.inl ⟨zw_73, rfl⟩⟩
theorem zk_5 : zm_okm 5 := ⟨by decide +kernel, Or.inl ⟨zw_79, rfl⟩⟩
theorem zk_6 : zm_okm 6 := ⟨by decide +kernel, Or.inl ⟨zw_106, rfl⟩⟩
theorem zk_7 : zm_okm 7 := ⟨by decide +kernel, Or.inl ⟨zw_109, rfl⟩⟩
theorem zk_8 : zm_okm 8 := ⟨by decide +kernel, Or.inl ⟨zw_112, rfl⟩⟩
theorem zk_9 : zm_okm 9 := ⟨by decide +kernel, Or.inl ⟨zw_184, rfl⟩⟩
theorem zk_10 : zm_okm 10 := ⟨by decide +kernel, Or.inl ⟨zw_188, rfl⟩⟩
theorem zk_11 : zm_okm 11 := ⟨by decide +kernel, Or.inr zw_191⟩
theorem zk_12 : zm_okm 12 := ⟨by decide +kernel, Or.inl ⟨zw_197, rfl⟩⟩
theorem zk_13 : zm_okm 13 := ⟨by decide +kernel, Or.inl ⟨zw_201, rfl⟩⟩
theorem zk_14 : zm_okm 14 := ⟨by decide +kernel, Or.inl ⟨zw_204, rfl⟩⟩
theorem zk_15 : zm_okm 15 := ⟨by decide +kernel, Or.inr zw_293⟩
theorem zk_16 : zm_okm 16 := ⟨by decide +kernel, Or.inl ⟨zw_297, rfl⟩⟩
theorem zk_17 : zm_okm 17 := ⟨by decide +kernel, Or.inl ⟨zw_301, rfl⟩⟩
theorem zk_18 : zm_okm 18 := ⟨by decide +kernel, Or.inl ⟨zw_305, rfl⟩⟩
theorem zk_19 : zm_okm 19 := ⟨by decide +kernel, Or.inl ⟨zw_308, rfl⟩⟩
theorem zk_20 : zm_okm 20 := ⟨by decide +kernel, Or.inl ⟨zw_312, rfl⟩⟩
theorem zk_21 : zm_okm 21 := ⟨by decide +kernel, Or.inl ⟨zw_317, rfl⟩⟩
theorem zk_22 : zm_okm 22 := ⟨by decide +kernel, Or.inl ⟨zw_321, rfl⟩⟩
theorem zk_23 : zm_okm 23 := ⟨by decide +kernel, Or.inl ⟨zw_325, rfl⟩⟩
theorem zk_24 : zm_okm 24 := ⟨by decide +kernel, Or.inl ⟨zw_331, rfl⟩⟩
theorem zk_25 : zm_okm 25 := ⟨by decide +kernel, Or.inl ⟨zw_335, rfl⟩⟩
theorem zk_26 : zm_okm 26 := ⟨by decide +kernel, Or.inl ⟨zw_339, rfl⟩⟩
theorem zk_27 : zm_okm 27 := ⟨by decide +kernel, Or.inl ⟨zw_342, rfl⟩⟩
theorem zk_28 : zm_okm 28 := ⟨by decide +kernel, Or.inl ⟨zw_346, rfl⟩⟩
theorem zk_29 : zm_okm 29 := ⟨by decide +kernel, Or.inl ⟨zw_349, rfl⟩⟩
theorem zk_30 : zm_okm 30 := ⟨by decide +kernel, Or.inl ⟨zw_353, rfl⟩⟩
theorem zk_31 : zm_okm 31 := ⟨by decide +kernel, Or.inl ⟨zw_358, rfl⟩⟩
theorem zk_32 : zm_okm 32 := ⟨by decide +kernel, Or.inl ⟨zw_383, rfl⟩⟩
theorem zk_33 : zm_okm 33 := ⟨by decide +kernel, Or.inr zw_400⟩
theorem zk_34 : zm_okm 34 := ⟨by decide +kernel, Or.inl ⟨zw_407, rfl⟩⟩
theorem zk_35 : zm_okm 35 := ⟨by decide +kernel, Or.inl ⟨zw_411, rfl⟩⟩
theorem zk_36 : zm_okm 36 := ⟨by decide +kernel, Or.inl ⟨zw_415, rfl⟩⟩
theorem zk_37 : zm_okm 37 := ⟨by decide +kernel, Or.inl ⟨zw_419, rfl⟩⟩
theorem zk_38 : zm_okm 38 := ⟨by decide +kernel, Or.inl ⟨zw_429, rfl⟩⟩
theorem zk_39 : zm_okm 39 := ⟨by decide +kernel, Or.inl ⟨zw_433, rfl⟩⟩
theorem zk_40 : zm_okm 40 := ⟨by decide +kernel, Or.inl ⟨zw_514, rfl⟩⟩
theorem zk_41 : zm_okm 41 := ⟨by decide +kernel, Or.inl ⟨zw_519, rfl⟩⟩
theorem zk_42 : zm_okm 42 := ⟨by decide +kernel, Or.inl ⟨zw_522, rfl⟩⟩
theorem zk_43 : zm_okm 43 := ⟨by decide +kernel, Or.inl ⟨zw_527, rfl⟩⟩
theorem zk_44 : zm_okm 44 := ⟨by decide +kernel, Or.inl ⟨zw_531, rfl⟩⟩
theorem zk_45 : zm_okm 45 := ⟨by decide +kernel, Or.inl ⟨zw_551, rfl⟩⟩
theorem zk_46 : zm_okm 46 := ⟨by decide +kernel, Or.inl ⟨zw_556, rfl⟩⟩
theorem zk_47 : zm_okm 47 := ⟨by decide +kernel, Or.inl ⟨zw_560, rfl⟩⟩
theorem zk_48 : zm_okm 48 := ⟨by decide +kernel, Or.inl ⟨zw_564, rfl⟩⟩
theorem zk_49 : zm_okm 49 := ⟨by decide +kernel, Or.inl ⟨zw_569, rfl⟩⟩
theorem zk_50 : zm_okm 50 := ⟨by decide +kernel, Or.inl ⟨zw_591, rfl⟩⟩
theorem zk_51 : zm_okm 51 := ⟨by decide +kernel, Or.inl ⟨zw_595, rfl⟩⟩
theorem zk_52 : zm_okm 52 := ⟨by decide +kernel, Or.inl ⟨zw_615, rfl⟩⟩
theorem zk_53 : zm_okm 53 := ⟨by decide +kernel, Or.inl ⟨zw_620, rfl⟩⟩
theorem zk_54 : zm_okm 54 := ⟨by decide +kernel, Or.inl ⟨zw_637, rfl⟩⟩
theorem zk_55 : zm_okm 55 := ⟨by decide +kernel, Or.inl ⟨zw_642, rfl⟩⟩
theorem zk_56 : zm_okm 56 := ⟨by decide +kernel, Or.inl ⟨zw_647, rfl⟩⟩
theorem zk_57 : zm_okm 57 := ⟨by decide +kernel, Or.inl ⟨zw_650, rfl⟩⟩
theorem zk_58 : zm_okm 58 := ⟨by decide +kernel, Or.inl ⟨zw_655, rfl⟩⟩
theorem zk_59 : zm_okm 59 := ⟨by decide +kernel, Or.inl ⟨zw_658, rfl⟩⟩
theorem zk_60 : zm_okm 60 := ⟨by decide +kernel, Or.inl ⟨zw_661, rfl⟩⟩
theorem zk_61 : zm_okm 61 := ⟨by decide +kernel, Or.inr zw_680⟩
theorem zk_62 : zm_okm 62 := ⟨by decide +kernel, Or.inl ⟨zw_684, rfl⟩⟩
theorem zk_63 : zm_okm 63 := ⟨by decide +kernel, Or.inr zw_688⟩
theorem zk_64 : zm_okm 64 := ⟨by decide +kernel, Or.inl ⟨zw_692, rfl⟩⟩
theorem zk_65 : zm_okm 65 := ⟨by decide +kernel, Or.inl ⟨zw_696, rfl⟩⟩
theorem zk_66 : zm_okm 66 := ⟨by decide +kernel, Or.inr zw_699⟩
theorem zk_67 : zm_okm 67 := ⟨by decide +kernel, Or.inl ⟨zw_703, rfl⟩⟩
theorem zk_68 : zm_okm 68 := ⟨by decide +kernel, Or.inr zw_706⟩
theorem zk_69 : zm_okm 69 := ⟨by decide +kernel, Or.inl ⟨zw_710, rfl⟩⟩
theorem zk_70 : zm_okm 70 := ⟨by decide +kernel, Or.inl ⟨zw_718, rfl⟩⟩
theorem zk_71 : zm_okm 71 := ⟨by decide +kernel, Or.inl ⟨zw_858, rfl⟩⟩
theorem zk_72 : zm_okm 72 := ⟨by decide +kernel, Or.inl ⟨zw_862, rfl⟩⟩
theorem zk_73 : zm_okm 73 := ⟨by decide +kernel, Or.inl ⟨zw_865, rfl⟩⟩
theorem zk_74 : zm_okm 74 := ⟨by decide +kernel, Or.inl ⟨zw_869, rfl⟩⟩
theorem zk_75 : zm_okm 75 := ⟨by decide +kernel, Or.inl ⟨zw_873, rfl⟩⟩
theorem zk_76 : zm_okm 76 := ⟨by decide +kernel, Or.inl ⟨zw_877, rfl⟩⟩
theorem zk_77 : zm_okm 77 := ⟨by decide +kernel, Or.inl ⟨zw_881, rfl⟩⟩
theorem zk_78 : zm_okm 78 := ⟨by decide +kernel, Or.inl ⟨zw_885, rfl⟩⟩
theorem zk_79 : zm_okm 79 := ⟨by decide +kernel, Or.inl ⟨zw_889, rfl⟩⟩
theorem zk_80 : zm_okm 80 := ⟨by decide +kernel, Or.inl ⟨zw_892, rfl⟩⟩
theorem zk_81 : zm_okm 81 := ⟨by decide +kernel, Or.inl ⟨zw_896, rfl⟩⟩
theorem zk_82 : zm_okm 82 := ⟨by decide +kernel, Or.inl ⟨zw_900, rfl⟩⟩
theorem zk_83 : zm_okm 83 := ⟨by decide +kernel, Or.inl ⟨zw_904, rfl⟩⟩
theorem zk_84 : zm_okm 84 := ⟨by decide +kernel, Or.inl ⟨zw_908, rfl⟩⟩
theorem zk_85 : zm_okm 85 := ⟨by decide +kernel, Or.inl ⟨zw_912, rfl⟩⟩
theorem zk_86 : zm_okm 86 := ⟨by decide +kernel, Or.inl ⟨zw_916, rfl⟩⟩
theorem zk_87 : zm_okm 87 := ⟨by decide +kernel, Or.inl ⟨zw_920, rfl⟩⟩
theorem zk_88 : zm_okm 88 := ⟨by decide +kernel, Or.inl ⟨zw_924, rfl⟩⟩
theorem zk_89 : zm_okm 89 := ⟨by decide +kernel, Or.inl ⟨zw_928, rfl⟩⟩
theorem zk_90 : zm_okm 90 := ⟨by decide +kernel, Or.inl ⟨zw_932, rfl⟩⟩
theorem zk_91 : zm_okm 91 := ⟨by decide +kernel, Or.inl ⟨zw_936, rfl⟩⟩
theorem zk_92 : zm_okm 92 := ⟨by decide +kernel, Or.inl ⟨zw_940, rfl⟩⟩
theorem zk_93 : zm_okm 93 := ⟨by decide +kernel, Or.inl ⟨zw_944, rfl⟩⟩
theorem zk_94 : zm_okm 94 := ⟨by decide +kernel, Or.inl ⟨zw_948, rfl⟩⟩
theorem zk_95 : zm_okm 95 := ⟨by decide +kernel, Or.inl ⟨zw_952, rfl⟩⟩
theorem zk_96 : zm_okm 96 := ⟨by decide +kernel, Or.inl ⟨zw_956, rfl⟩⟩
theorem zk_97 : zm_okm 97 := ⟨by decide +kernel, Or.inl ⟨zw_960, rfl⟩⟩
theorem zk_98 : zm_okm 98 := ⟨by decide +kernel, Or.inl ⟨zw_964, rfl⟩⟩
theorem zk_99 : zm_okm 99 := ⟨by decide +kernel, Or.inl ⟨zw_968, rfl⟩⟩
theorem zk_100 : zm_okm 100 := ⟨by decide +kernel, Or.inl ⟨zw_972, rfl⟩⟩
theorem zk_101 : zm_okm 101 := ⟨by decide +kernel, Or.inl ⟨zw_976, rfl⟩⟩
theorem zk_102 : zm_okm 102 := ⟨by decide +kernel, Or.inl ⟨zw_980, rfl⟩⟩
theorem zk_103 : zm_okm 103 := ⟨by decide +kernel, Or.inl ⟨zw_984, rfl⟩⟩
theorem zk_104 : zm_okm 104 := ⟨by decide +kernel, Or.inl ⟨zw_988, rfl⟩⟩
theorem zk_105 : zm_okm 105 := ⟨by decide +kernel, Or.inl ⟨zw_992, rfl⟩⟩
theorem zk_106 : zm_okm 106 := ⟨by decide +kernel, Or.inl ⟨zw_996, rfl⟩⟩
theorem zk_107 : zm_okm 107 := ⟨by decide +kernel, Or.inl ⟨zw_1000, rfl⟩⟩
theorem zc_0_4 : zm_okI 0 43 1 0 := ⟨⟨zk_1, Or.inl zw_29, by decide +kernel, by decide +kernel⟩, zw_30, rfl, zw_31⟩
theorem zc_0_12 : zm_okI 0 46 70 0 := ⟨⟨zk_70, Or.inl zw_716, by decide +kernel, by decide +kernel⟩, zw_717, rfl, zw_718⟩
theorem zc_0_108 : zm_okS 0 49 11 3 := ⟨⟨zk_11, Or.inl zw_189, by decide +kernel, by decide +kernel⟩, zw_190, zw_0⟩
theorem zc_0_136 : zm_okV 0 54 72 1 5 := ⟨⟨zk_72, Or.inl zw_859, by decide +kernel, by decide +kernel⟩, zw_860, _, _, _, rfl, zw_861⟩
theorem zc_0_142 : zm_okV 0 55 71 0 5 := ⟨⟨zk_71, Or.inl zw_855, by decide +kernel, by decide +kernel⟩, zw_856, _, _, _, rfl, zw_857⟩
theorem zc_0_174 : zm_okS 0 58 15 2 := ⟨⟨zk_15, Or.inl zw_291, by decide +kernel, by decide +kernel⟩, zw_292, zw_0⟩
theorem zc_0_180 : zm_okV 0 61 76 0 5 := ⟨⟨zk_76, Or.inl zw_874, by decide +kernel, by decide +kernel⟩, zw_875, _, _, _, rfl, zw_876⟩
theorem zc_0_186 : zm_okV 0 55 71 0 5 := ⟨⟨zk_71, Or.inl zw_855, by decide +kernel, by decide +kernel⟩, zw_856, _, _, _, rfl, zw_857⟩
theorem zc_0_218 : zm_okS 0 62 33 2 := ⟨⟨zk_33, Or.inl zw_398, by decide +kernel, by decide +kernel⟩, zw_399, zw_0⟩
theorem zc_0_224 : zm_okV 0 64 82 0 5 := ⟨⟨zk_82, Or.inl zw_897, by decide +kernel, by decide +kernel⟩, zw_898, _, _, _, rfl, zw_899⟩
theorem zc_0_230 : zm_okV 0 55 71 0 5 := ⟨⟨zk_71, Or.inl zw_855, by decide +kernel, by decide +kernel⟩, zw_856, _, _, _, rfl, zw_857⟩
theorem zc_0_262 : zm_okS 0 65 61 2 := ⟨⟨zk_61, Or.inl zw_678, by decide +kernel, by decide +kernel⟩, zw_679, zw_0⟩
theorem zc_0_268 : zm_okV 0 67 102 0 5 := ⟨⟨zk_102, Or.inl zw_977, by decide +kernel, by decide +kernel⟩, zw_978, _, _, _, rfl, zw_979⟩
theorem zc_0_274 : zm_okV 0 55 71 0 5 := ⟨⟨zk_71, Or.inl zw_855, by decide +kernel, by decide +kernel⟩, zw_856, _, _, _, rfl, zw_857⟩
theorem zc_0_306 : zm_okS 0 68 63 2 := ⟨⟨zk_63, Or.inl zw_686, by decide +kernel, by decide +kernel⟩, zw_687, zw_0⟩
theorem zc_0_312 : zm_okV 0 70 103 0 5 := ⟨⟨zk_103, Or.inl zw_981, by decide +kernel, by decide +kernel⟩, zw_982, _, _, _, rfl, zw_983⟩
theorem zc_0_318 : zm_okV 0 55 71 0 5 := ⟨⟨zk_71, Or.inl zw_855, by decide +kernel, by decide +kernel⟩, zw_856, _, _, _, rfl, zw_857⟩
theorem zc_0_350 : zm_okS 0 71 66 2 := ⟨⟨zk_66, Or.inl zw_697, by decide +kernel, by decide +kernel⟩, zw_698, zw_0⟩
theorem zc_0_356 : zm_okV 0 73 105 0 5 := ⟨⟨zk_105, Or.inl zw_989, by decide +kernel, by decide +kernel⟩, zw_990, _, _, _, rfl, zw_991⟩
theorem zc_0_362 : zm_okV 0 55 71 0 5 := ⟨⟨zk_71, Or.inl zw_855, by decide +kernel, by decide +kernel⟩, zw_856, _, _, _, rfl, zw_857⟩
theorem zc_0_399 : zm_okS 0 74 68 2 := ⟨⟨zk_68, Or.inl zw_704, by decide +kernel, by decide +kernel⟩, zw_705, zw_0⟩
theorem zc_0_411 : zm_okV 0 77 106 1 5 := ⟨⟨zk_106, Or.inl zw_993, by decide +kernel, by decide +kernel⟩, zw_994, _, _, _, rfl, zw_995⟩
theorem zc_0_415 : zm_okV 0 55 71 0 5 := ⟨⟨zk_71, Or.inl zw_855, by decide +kernel, by decide +kernel⟩, zw_856, _, _, _, rfl, zw_857⟩
theorem zc_0_435 : zm_okV 0 78 9 1 0 := ⟨⟨zk_9, Or.inl zw_181, by decide +kernel, by decide +kernel⟩, zw_182, _, _, _, rfl, zw_183⟩
theorem zc_0_445 : zm_okV 0 82 107 1 5 := ⟨⟨zk_107, Or.inl zw_997, by decide +kernel, by decide +kernel⟩, zw_998, _, _, _, rfl, zw_999⟩
theorem zc_1_1 : zm_okO 1 1 := ⟨zw_32, zw_33, zw_34⟩
theorem zc_1_9 : zm_okI 1 9 3 0 := ⟨⟨zk_3, Or.inl zw_37, by decide +kernel, by decide +kernel⟩, zw_38, rfl, zw_39⟩
theorem zc_1_20 : zm_okI 1 18 4 0 := ⟨⟨zk_4, Or.inl zw_71, by decide +kernel, by decide +kernel⟩, zw_72, rfl, zw_73⟩
theorem zc_3_1 : zm_okO 3 3 := ⟨zw_40, zw_33, zw_34⟩
theorem zc_4_1 : zm_okO 4 3 := ⟨zw_74, zw_33, zw_34⟩
theorem zc_4_9 : zm_okI 4 11 5 0 := ⟨⟨zk_5, Or.inr ⟨_, zw_77⟩, by decide +kernel, by decide +kernel⟩, zw_78, rfl, zw_79⟩
theorem zc_4_28 : zm_okI 4 24 6 0 := ⟨⟨zk_6, Or.inl zw_104, by decide +kernel, by decide +kernel⟩, zw_105, rfl, zw_106⟩
theorem zc_4_39 : zm_okI 4 24 6 0 := ⟨⟨zk_6, Or.inl zw_104, by decide +kernel, by decide +kernel⟩, zw_105, rfl, zw_106⟩
theorem zc_4_50 : zm_okI 4 24 6 0 := ⟨⟨zk_6, Or.inl zw_104, by decide +kernel, by decide +kernel⟩, zw_105, rfl, zw_106⟩
theorem zc_5_1 : zm_okO 5 1 := ⟨zw_80, zw_33, zw_34⟩
theorem zc_6_1 : zm_okI 6 1 7 0 := ⟨⟨zk_7, Or.inl zw_107, by decide +kernel, by decide +kernel⟩, zw_108, rfl, zw_109⟩
theorem zc_7_1 : zm_okI 7 1 8 0 := ⟨⟨zk_8, Or.inl zw_110, by decide +kernel, by decide +kernel⟩, zw_111, rfl, zw_112⟩
theorem zc_8_1 : zm_okO 8 1 := ⟨zw_113, zw_33, zw_34⟩
theorem zc_9_65 : zm_okV 9 111 10 0 0 := ⟨⟨zk_10, Or.inl zw_185, by decide +kernel, by decide +kernel⟩, zw_187, _, _, _, rfl, zm_memS 0 rfl⟩
theorem zc_11_4 : zm_okV 11 7 12 1 0 := ⟨⟨zk_12, Or.inl zw_194, by decide +kernel, by decide +kernel⟩, zw_195, _, _, _, rfl, zw_196⟩
theorem zc_12_5 : zm_okV 12 29 13 1 1 := ⟨⟨zk_13, Or.inl zw_198, by decide +kernel, by decide +kernel⟩, zw_199, _, _, _, rfl, zw_200⟩
theorem zc_13_14 : zm_okS 13 22 14 2 := ⟨⟨zk_14, Or.inl zw_202, by decide +kernel, by decide +kernel⟩, zw_203, zw_2⟩
theorem zc_13_100 : zm_okS 13 22 14 2 := ⟨⟨zk_14, Or.inl zw_202, by decide +kernel, by decide +kernel⟩, zw_203, zw_2⟩
theorem zc_15_3 : zm_okV 15 17 16 0 0 := ⟨⟨zk_16, Or.inl zw_294, by decide +kernel, by decide +kernel⟩, zw_295, _, _, _, rfl, zw_296⟩
theorem zc_16_4 : zm_okV 16 33 17 0 1 := ⟨⟨zk_17, Or.inl zw_298, by decide +kernel, by decide +kernel⟩, zw_299, _, _, _, rfl, zw_300⟩
theorem zc_17_1 : zm_okV 17 41 18 0 1 := ⟨⟨zk_18, Or.inl zw_302, by decide +kernel, by decide +kernel⟩, zw_304, _, _, _, rfl, zm_memS 2 rfl⟩
theorem zc_17_25 : zm_okS 17 50 19 1 := ⟨⟨zk_19, Or.inl zw_306, by decide +kernel, by decide +kernel⟩, zw_307, zw_2⟩
theorem zc_17_36 : zm_okV 17 54 20 1 1 := ⟨⟨zk_20, Or.inl zw_309, by decide +kernel, by decide +kernel⟩, zw_311, _, _, _, rfl, zm_memS 3 rfl⟩
theorem zc_17_63 : zm_okV 17 58 21 0 1 := ⟨⟨zk_21, Or.inl zw_314, by decide +kernel, by decide +kernel⟩, zw_316, _, _, _, rfl, zm_memS 4 rfl⟩
theorem zc_17_97 : zm_okV 17 54 20 1 1 := ⟨⟨zk_20, Or.inl zw_309, by decide +kernel, by decide +kernel⟩, zw_311, _, _, _, rfl, zm_memS 3 rfl⟩
theorem zc_17_120 : zm_okV 17 66 24 0 1 := ⟨⟨zk_24, Or.inl zw_328, by decide +kernel, by decide +kernel⟩, zw_330, _, _, _, rfl, zm_memS 7 rfl⟩
theorem zc_17_123 : zm_okI 17 70 32 3 := ⟨⟨zk_32, Or.inl zw_381, by decide +kernel, by decide +kernel⟩, zw_382, rfl, zw_383⟩
theorem zc_21_29 : zm_okV 21 73 22 1 1 := ⟨⟨zk_22, Or.inl zw_318, by decide +kernel, by decide +kernel⟩, zw_320, _, _, _, rfl, zm_memS 5 rfl⟩
theorem zc_22_14 : zm_okV 22 103 23 1 1 := ⟨⟨zk_23, Or.inl zw_322, by decide +kernel, by decide +kernel⟩, zw_324, _, _, _, rfl, zm_memS 6 rfl⟩
theorem zc_24_7 : zm_okV 24 79 25 1 1 := ⟨⟨zk_25, Or.inl zw_332, by decide +kernel, by decide +kernel⟩, zw_334, _, _, _, rfl, zm_memS 8 rfl⟩
theorem zc_24_28 : zm_okV 24 54 20 1 1 := ⟨⟨zk_20, Or.inl zw_309, by decide +kernel, by decide +kernel⟩, zw_311, _, _, _, rfl, zm_memS 3 rfl⟩
theorem zc_25_23 : zm_okV 25 83 26 2 1 := ⟨⟨zk_26, Or.inl zw_336, by decide +kernel, by decide +kernel⟩, zw_338, _, _, _, rfl, zm_memS 9 rfl⟩
theorem zc_25_34 : zm_okV 25 54 20 1 1 := ⟨⟨zk_20, Or.inl zw_309, by decide +kernel, by decide +kernel⟩, zw_311, _, _, _, rfl, zm_memS 3 rfl⟩
theorem zc_25_48 : zm_okS 25 87 27 1 := ⟨⟨zk_27, Or.inl zw_340, by decide +kernel, by decide +kernel⟩, zw_341, zw_2⟩
theorem zc_25_80 : zm_okV 25 91 30 1 1 := ⟨⟨zk_30, Or.inl zw_350, by decide +kernel, by decide +kernel⟩, zw_352, _, _, _, rfl, zm_memS 11 rfl⟩
theorem zc_25_88 : zm_okV 25 79 25 1 1 := ⟨⟨zk_25, Or.inl zw_332, by decide +kernel, by decide +kernel⟩, zw_334, _, _, _, rfl, zm_memS 8 rfl⟩
theorem zc_25_102 : zm_okV 25 79 25 1 1 := ⟨⟨zk_25, Or.inl zw_332, by decide +kernel, by decide +kernel⟩, zw_334, _, _, _, rfl, zm_memS 8 rfl⟩
theorem zc_25_120 : zm_okV 25 79 25 1 1 := ⟨⟨zk_25, Or.inl zw_332, by decide +kernel, by decide +kernel⟩, zw_334, _, _, _, rfl, zm_memS 8 rfl⟩
theorem zc_25_141 : zm_okI 25 97 31 5 := ⟨⟨zk_31, Or.inl zw_356, by decide +kernel, by decide +kernel⟩, zw_357, rfl, zw_358⟩
theorem zc_26_1 : zm_okS 26 87 27 1 := ⟨⟨zk_27, Or.inl zw_340, by decide +kernel, by decide +kernel⟩, zw_341, zw_2⟩
theorem zc_26_11 : zm_okV 26 106 28 1 1 := ⟨⟨zk_28, Or.inl zw_343, by decide +kernel, by decide +kernel⟩, zw_345, _, _, _, rfl, zm_memS 10 rfl⟩
theorem zc_28_1 : zm_okS 28 100 29 1 := ⟨⟨zk_29, Or.inl zw_347, by decide +kernel, by decide +kernel⟩, zw_348, zw_2⟩
theorem zc_28_8 : zm_okS 28 50 19 1 := ⟨⟨zk_19, Or.inl zw_306, by decide +kernel, by decide +kernel⟩, zw_307, zw_2⟩
theorem zc_28_22 : zm_okV 28 103 23 1 1 := ⟨⟨zk_23, Or.inl zw_322, by decide +kernel, by decide +kernel⟩, zw_324, _, _, _, rfl, zm_memS 6 rfl⟩
theorem zc_30_1 : zm_okS 30 100 29 1 := ⟨⟨zk_29, Or.inl zw_347, by decide +kernel, by decide +kernel⟩, zw_348, zw_2⟩
theorem zc_30_20 : zm_okI 30 97 31 5 := ⟨⟨zk_31, Or.inl zw_356, by decide +kernel, by decide +kernel⟩, zw_357, rfl, zw_358⟩
theorem zc_30_25 : zm_okS 30 50 19 1 := ⟨⟨zk_19, Or.inl zw_306, by decide +kernel, by decide +kernel⟩, zw_307, zw_2⟩
theorem zc_30_44 : zm_okI 30 97 31 5 := ⟨⟨zk_31, Or.inl zw_356, by decide +kernel, by decide +kernel⟩, zw_357, rfl, zw_358⟩
theorem zc_30_50 : zm_okV 30 103 23 1 1 := ⟨⟨zk_23, Or.inl zw_322, by decide +kernel, by decide +kernel⟩, zw_324, _, _, _, rfl, zm_memS 6 rfl⟩
theorem zc_30_68 : zm_okI 30 97 31 5 := ⟨⟨zk_31, Or.inl zw_356, by decide +kernel, by decide +kernel⟩, zw_357, rfl, zw_358⟩
theorem zc_30_82 : zm_okI 30 97 31 5 := ⟨⟨zk_31, Or.inl zw_356, by decide +kernel, by decide +kernel⟩, zw_357, rfl, zw_358⟩
theorem zc_31_1 : zm_okO 31 1 := ⟨zw_359, zw_33, zw_34⟩
theorem zc_32_1 : zm_okO 32 1 := ⟨zw_384, zw_33, zw_34⟩
theorem zc_33_3 : zm_okV 33 21 34 0 0 := ⟨⟨zk_34, Or.inl zw_404, by decide +kernel, by decide +kernel⟩, zw_405, _, _, _, rfl, zw_406⟩
theorem zc_34_4 : zm_okV 34 44 35 0 1 := ⟨⟨zk_35, Or.inl zw_408, by decide +kernel, by decide +kernel⟩, zw_409, _, _, _, rfl, zw_410⟩
theorem zc_34_17 : zm_okV 34 52 36 0 2 := ⟨⟨zk_36, Or.inl zw_412, by decide +kernel, by decide +kernel⟩, zw_413, _, _, _, rfl, zw_414⟩
theorem zc_34_35 : zm_okV 34 61 37 3 0 := ⟨⟨zk_37, Or.inl zw_416, by decide +kernel, by decide +kernel⟩, zw_418, _, _, _, rfl, zm_memS 12 rfl⟩
theorem zc_35_1 : zm_okV 35 41 18 0 1 := ⟨⟨zk_18, Or.inl zw_302, by decide +kernel, by decide +kernel⟩, zw_304, _, _, _, rfl, zm_memS 2 rfl⟩
theorem zc_35_5 : zm_okV 35 66 24 0 1 := ⟨⟨zk_24, Or.inl zw_328, by decide +kernel, by decide +kernel⟩, zw_330, _, _, _, rfl, zm_memS 7 rfl⟩
theorem zc_37_132 : zm_okV 37 148 38 1 2 := ⟨⟨zk_38, Or.inl zw_426, by decide +kernel, by decide +kernel⟩, zw_427, _, _, _, rfl, zw_428⟩
theorem zc_37_150 : zm_okS 37 155 40 2 := ⟨⟨zk_40, Or.inl zw_512, by decide +kernel, by decide +kernel⟩, zw_513, zw_1⟩
theorem zc_37_154 : zm_okV 37 89 41 2 0 := ⟨⟨zk_41, Or.inl zw_516, by decide +kernel, by decide +kernel⟩, zw_518, _, _, _, rfl, zm_memS 17 rfl⟩
theorem zc_37_164 : zm_okV 37 159 43 2 0 := ⟨⟨zk_43, Or.inl zw_524, by decide +kernel, by decide +kernel⟩, zw_526, _, _, _, rfl, zm_memS 18 rfl⟩
theorem zc_37_178 : zm_okV 37 167 47 2 0 := ⟨⟨zk_47, Or.inl zw_557, by decide +kernel, by decide +kernel⟩, zw_559, _, _, _, rfl, zm_memS 21 rfl⟩
theorem zc_37_187 : zm_okV 37 167 47 2 0 := ⟨⟨zk_47, Or.inl zw_557, by decide +kernel, by decide +kernel⟩, zw_559, _, _, _, rfl, zm_memS 21 rfl⟩
theorem zc_37_190 : zm_okV 37 174 50 2 2 := ⟨⟨zk_50, Or.inl zw_588, by decide +kernel, by decide +kernel⟩, zw_589, _, _, _, rfl, zw_590⟩
theorem zc_37_198 : zm_okV 37 178 51 3 0 := ⟨⟨zk_51, Or.inl zw_592, by decide +kernel, by decide +kernel⟩, zw_594, _, _, _, rfl, zm_memS 22 rfl⟩
theorem zc_37_212 : zm_okV 37 61 37 3 0 := ⟨⟨zk_37, Or.inl zw_416, by decide +kernel, by decide +kernel⟩, zw_418, _, _, _, rfl, zm_memS 12 rfl⟩
theorem zc_37_215 : zm_okS 37 124 54 1 := ⟨⟨zk_54, Or.inl zw_635, by decide +kernel, by decide +kernel⟩, zw_636, zw_1⟩
theorem zc_37_222 : zm_okV 37 89 41 2 0 := ⟨⟨zk_41, Or.inl zw_516, by decide +kernel, by decide +kernel⟩, zw_518, _, _, _, rfl, zm_memS 17 rfl⟩
theorem zc_37_236 : zm_okV 37 61 37 3 0 := ⟨⟨zk_37, Or.inl zw_416, by decide +kernel, by decide +kernel⟩, zw_418, _, _, _, rfl, zm_memS 12 rfl⟩
theorem zc_37_239 : zm_okS 37 124 54 1 := ⟨⟨zk_54, Or.inl zw_635, by decide +kernel, by decide +kernel⟩, zw_636, zw_1⟩
theorem zc_37_246 : zm_okV 37 89 41 2 0 := ⟨⟨zk_41, Or.inl zw_516, by decide +kernel, by decide +kernel⟩, zw_518, _, _, _, rfl, zm_memS 17 rfl⟩
theorem zc_37_263 : zm_okV 37 61 37 3 0 := ⟨⟨zk_37, Or.inl zw_416, by decide +kernel, by decide +kernel⟩, zw_418, _, _, _, rfl, zm_memS 12 rfl⟩
theorem zc_37_266 : zm_okS 37 181 55 1 := ⟨⟨zk_55, Or.inl zw_640, by decide +kernel, by decide +kernel⟩, zw_641, zw_1⟩
theorem zc_37_269 : zm_okV 37 148 38 1 2 := ⟨⟨zk_38, Or.inl zw_426, by decide +kernel, by decide +kernel⟩, zw_427, _, _, _, rfl, zw_428⟩
theorem zc_37_277 : zm_okV 37 184 56 3 0 := ⟨⟨zk_56, Or.inl zw_644, by decide +kernel, by decide +kernel⟩, zw_646, _, _, _, rfl, zm_memS 23 rfl⟩
theorem zc_37_285 : zm_okV 37 187 58 3 0 := ⟨⟨zk_58, Or.inl zw_652, by decide +kernel, by decide +kernel⟩, zw_654, _, _, _, rfl, zm_memS 24 rfl⟩
theorem zc_38_2 : zm_okV 38 44 39 1 2 := ⟨⟨zk_39, Or.inl zw_430, by decide +kernel, by decide +kernel⟩, zw_432, _, _, _, rfl, zm_memS 13 rfl⟩
theorem zc_39_22 : zm_okI 39 11 5 0 := ⟨⟨zk_5, Or.inr ⟨_, zw_77⟩, by decide +kernel, by decide +kernel⟩, zw_78, rfl, zw_79⟩
theorem zc_41_18 : zm_okS 41 241 42 1 := ⟨⟨zk_42, Or.inl zw_520, by decide +kernel, by decide +kernel⟩, zw_521, zw_1⟩
theorem zc_41_49 : zm_okV 41 61 37 3 0 := ⟨⟨zk_37, Or.inl zw_416, by decide +kernel, by decide +kernel⟩, zw_418, _, _, _, rfl, zm_memS 12 rfl⟩
theorem zc_43_2 : zm_okV 43 101 44 1 0 := ⟨⟨zk_44, Or.inl zw_528, by decide +kernel, by decide +kernel⟩, zw_530, _, _, _, rfl, zm_memS 19 rfl⟩
theorem zc_43_17 : zm_okV 43 190 45 3 0 := ⟨⟨zk_45, Or.inl zw_548, by decide +kernel, by decide +kernel⟩, zw_550, _, _, _, rfl, zm_memS 20 rfl⟩
theorem zc_43_27 : zm_okV 43 194 46 2 2 := ⟨⟨zk_46, Or.inl zw_553, by decide +kernel, by decide +kernel⟩, zw_554, _, _, _, rfl, zw_555⟩
theorem zc_45_49 : zm_okV 45 61 37 3 0 := ⟨⟨zk_37, Or.inl zw_416, by decide +kernel, by decide +kernel⟩, zw_418, _, _, _, rfl, zm_memS 12 rfl⟩
theorem zc_46_2 : zm_okV 46 44 39 1 2 := ⟨⟨zk_39, Or.inl zw_430, by decide +kernel, by decide +kernel⟩, zw_432, _, _, _, rfl, zm_memS 13 rfl⟩
theorem zc_47_14 : zm_okS 47 155 40 2 := ⟨⟨zk_40, Or.inl zw_512, by decide +kernel, by decide +kernel⟩, zw_513, zw_1⟩
theorem zc_47_24 : zm_okV 47 254 48 2 2 := ⟨⟨zk_48, Or.inl zw_561, by decide +kernel, by decide +kernel⟩, zw_562, _, _, _, rfl, zw_563⟩
theorem zc_48_22 : zm_okI 48 68 49 0 := ⟨⟨zk_49, Or.inr ⟨_, zw_567⟩, by decide +kernel, by decide +kernel⟩, zw_568, rfl, zw_569⟩
theorem zc_49_1 : zm_okO 49 1 := ⟨zw_570, zw_33, zw_34⟩
theorem zc_50_2 : zm_okV 50 44 39 1 2 := ⟨⟨zk_39, Or.inl zw_430, by decide +kernel, by decide +kernel⟩, zw_432, _, _, _, rfl, zm_memS 13 rfl⟩
theorem zc_51_9 : zm_okV 51 61 37 3 0 := ⟨⟨zk_37, Or.inl zw_416, by decide +kernel, by decide +kernel⟩, zw_418, _, _, _, rfl, zm_memS 12 rfl⟩
theorem zc_51_39 : zm_okV 51 101 44 1 0 := ⟨⟨zk_44, Or.inl zw_528, by decide +kernel, by decide +kernel⟩, zw_530, _, _, _, rfl, zm_memS 19 rfl⟩
theorem zc_51_59 : zm_okV 51 167 47 2 0 := ⟨⟨zk_47, Or.inl zw_557, by decide +kernel, by decide +kernel⟩, zw_559, _, _, _, rfl, zm_memS 21 rfl⟩
theorem zc_51_62 : zm_okV 51 210 52 2 2 := ⟨⟨zk_52, Or.inl zw_612, by decide +kernel, by decide +kernel⟩, zw_613, _, _, _, rfl, zw_614⟩
theorem zc_51_91 : zm_okV 51 194 46 2 2 := ⟨⟨zk_46, Or.inl zw_553, by decide +kernel, by decide +kernel⟩, zw_554, _, _, _, rfl, zw_555⟩
theorem zc_51_101 : zm_okV 51 190 45 3 0 := ⟨⟨zk_45, Or.inl zw_548, by decide +kernel, by decide +kernel⟩, zw_550, _, _, _, rfl, zm_memS 20 rfl⟩
theorem zc_52_22 : zm_okI 52 93 53 0 := ⟨⟨zk_53, Or.inr ⟨_, zw_618⟩, by decide +kernel, by decide +kernel⟩, zw_619, rfl, zw_620⟩
theorem zc_53_1 : zm_okO 53 1 := ⟨zw_621, zw_33, zw_34⟩
theorem zc_56_9 : zm_okV 56 61 37 3 0 := ⟨⟨zk_37, Or.inl zw_416, by decide +kernel, by decide +kernel⟩, zw_418, _, _, _, rfl, zm_memS 12 rfl⟩
theorem zc_56_12 : zm_okS 56 77 57 1 := ⟨⟨zk_57, Or.inl zw_648, by decide +kernel, by decide +kernel⟩, zw_649, zw_1⟩
theorem zc_56_38 : zm_okV 56 61 37 3 0 := ⟨⟨zk_37, Or.inl zw_416, by decide +kernel, by decide +kernel⟩, zw_418, _, _, _, rfl, zm_memS 12 rfl⟩
theorem zc_58_9 : zm_okV 58 61 37 3 0 := ⟨⟨zk_37, Or.inl zw_416, by decide +kernel, by decide +kernel⟩, zw_418, _, _, _, rfl, zm_memS 12 rfl⟩
theorem zc_58_12 : zm_okS 58 77 57 1 := ⟨⟨zk_57, Or.inl zw_648, by decide +kernel, by decide +kernel⟩, zw_649, zw_1⟩
theorem zc_58_26 : zm_okV 58 61 37 3 0 := ⟨⟨zk_37, Or.inl zw_416, by decide +kernel, by decide +kernel⟩, zw_418, _, _, _, rfl, zm_memS 12 rfl⟩
theorem zc_58_29 : zm_okS 58 77 57 1 := ⟨⟨zk_57, Or.inl zw_648, by decide +kernel, by decide +kernel⟩, zw_649, zw_1⟩
theorem zc_58_46 : zm_okS 58 227 59 3 := ⟨⟨zk_59, Or.inl zw_656, by decide +kernel, by decide +kernel⟩, zw_657, zw_1⟩
theorem zc_58_49 : zm_okV 58 148 38 1 2 := ⟨⟨zk_38, Or.inl zw_426, by decide +kernel, by decide +kernel⟩, zw_427, _, _, _, rfl, zw_428⟩
theorem zc_59_74 : zm_okS 59 231 60 1 := ⟨⟨zk_60, Or.inl zw_659, by decide +kernel, by decide +kernel⟩, zw_660, zw_1⟩
theorem zc_59_81 : zm_okS 59 231 60 1 := ⟨⟨zk_60, Or.inl zw_659, by decide +kernel, by decide +kernel⟩, zw_660, zw_1⟩
theorem zc_61_3 : zm_okV 61 30 62 0 0 := ⟨⟨zk_62, Or.inl zw_681, by decide +kernel, by decide +kernel⟩, zw_682, _, _, _, rfl, zw_683⟩
theorem zc_62_21 : zm_okS 62 77 57 1 := ⟨⟨zk_57, Or.inl zw_648, by decide +kernel, by decide +kernel⟩, zw_649, zw_1⟩
theorem zc_63_3 : zm_okV 63 33 64 0 0 := ⟨⟨zk_64, Or.inl zw_689, by decide +kernel, by decide +kernel⟩, zw_690, _, _, _, rfl, zw_691⟩
theorem zc_64_1 : zm_okV 64 81 65 0 0 := ⟨⟨zk_65, Or.inl zw_693, by decide +kernel, by decide +kernel⟩, zw_695, _, _, _, rfl, zm_memS 25 rfl⟩
theorem zc_64_11 : zm_okV 64 89 41 2 0 := ⟨⟨zk_41, Or.inl zw_516, by decide +kernel, by decide +kernel⟩, zw_518, _, _, _, rfl, zm_memS 17 rfl⟩
theorem zc_64_14 : zm_okS 64 77 57 1 := ⟨⟨zk_57, Or.inl zw_648, by decide +kernel, by decide +kernel⟩, zw_649, zw_1⟩
theorem zc_65_25 : zm_okS 65 124 54 1 := ⟨⟨zk_54, Or.inl zw_635, by decide +kernel, by decide +kernel⟩, zw_636, zw_1⟩
theorem zc_66_3 : zm_okV 66 36 67 0 0 := ⟨⟨zk_67, Or.inl zw_700, by decide +kernel, by decide +kernel⟩, zw_701, _, _, _, rfl, zw_702⟩
theorem zc_67_1 : zm_okV 67 81 65 0 0 := ⟨⟨zk_65, Or.inl zw_693, by decide +kernel, by decide +kernel⟩, zw_695, _, _, _, rfl, zm_memS 25 rfl⟩
theorem zc_67_12 : zm_okV 67 89 41 2 0 := ⟨⟨zk_41, Or.inl zw_516, by decide +kernel, by decide +kernel⟩, zw_518, _, _, _, rfl, zm_memS 17 rfl⟩
theorem zc_68_2 : zm_okV 68 39 69 1 0 := ⟨⟨zk_69, Or.inl zw_707, by decide +kernel, by decide +kernel⟩, zw_708, _, _, _, rfl, zw_709⟩
theorem zc_69_22 : zm_okV 69 101 44 1 0 := ⟨⟨zk_44, Or.inl zw_528, by decide +kernel, by decide +kernel⟩, zw_530, _, _, _, rfl, zm_memS 19 rfl⟩
theorem zc_70_1 : zm_okO 70 1 := ⟨zw_719, zw_33, zw_34⟩
theorem zc_72_44 : zm_okS 72 87 73 3 := ⟨⟨zk_73, Or.inl zw_863, by decide +kernel, by decide +kernel⟩, zw_864, zw_8⟩
theorem zc_72_62 : zm_okV 72 91 74 1 5 := ⟨⟨zk_74, Or.inl zw_866, by decide +kernel, by decide +kernel⟩, zw_868, _, _, _, rfl, zm_memS 26 rfl⟩
theorem zc_72_83 : zm_okV 72 98 75 1 5 := ⟨⟨zk_75, Or.inl zw_870, by decide +kernel, by decide +kernel⟩, zw_872, _, _, _, rfl, zm_memS 27 rfl⟩
theorem zc_76_27 : zm_okV 76 115 77 1 5 := ⟨⟨zk_77, Or.inl zw_878, by decide +kernel, by decide +kernel⟩, zw_880, _, _, _, rfl, zm_memS 28 rfl⟩
theorem zc_76_42 : zm_okV 76 119 79 1 5 := ⟨⟨zk_79, Or.inl zw_886, by decide +kernel, by decide +kernel⟩, zw_888, _, _, _, rfl, zm_memS 30 rfl⟩
theorem zc_76_98 : zm_okV 76 123 81 1 5 := ⟨⟨zk_81, Or.inl zw_893, by decide +kernel, by decide +kernel⟩, zw_895, _, _, _, rfl, zm_memS 31 rfl⟩
theorem zc_76_159 : zm_okV 76 91 74 1 5 := ⟨⟨zk_74, Or.inl zw_866, by decide +kernel, by decide +kernel⟩, zw_868, _, _, _, rfl, zm_memS 26 rfl⟩
theorem zc_77_5 : zm_okV 77 105 78 0 5 := ⟨⟨zk_78, Or.inl zw_882, by decide +kernel, by decide +kernel⟩, zw_884, _, _, _, rfl, zm_memS 29 rfl⟩
theorem zc_77_12 : zm_okS 77 87 73 3 := ⟨⟨zk_73, Or.inl zw_863, by decide +kernel, by decide +kernel⟩, zw_864, zw_8⟩
theorem zc_77_36 : zm_okV 77 105 78 0 5 := ⟨⟨zk_78, Or.inl zw_882, by decide +kernel, by decide +kernel⟩, zw_884, _, _, _, rfl, zm_memS 29 rfl⟩
theorem zc_77_43 : zm_okS 77 87 73 3 := ⟨⟨zk_73, Or.inl zw_863, by decide +kernel, by decide +kernel⟩, zw_864, zw_8⟩
theorem zc_77_51 : zm_okV 77 105 78 0 5 := ⟨⟨zk_78, Or.inl zw_882, by decide +kernel, by decide +kernel⟩, zw_884, _, _, _, rfl, zm_memS 29 rfl⟩
theorem zc_77_66 : zm_okV 77 105 78 0 5 := ⟨⟨zk_78, Or.inl zw_882, by decide +kernel, by decide +kernel⟩, zw_884, _, _, _, rfl, zm_memS 29 rfl⟩
theorem zc_77_78 : zm_okV 77 105 78 0 5 := ⟨⟨zk_78, Or.inl zw_882, by decide +kernel, by decide +kernel⟩, zw_884, _, _, _, rfl, zm_memS 29 rfl⟩
theorem zc_77_99 : zm_okV 77 105 78 0 5 := ⟨⟨zk_78, Or.inl zw_882, by decide +kernel, by decide +kernel⟩, zw_884, _, _, _, rfl, zm_memS 29 rfl⟩
theorem zc_79_14 : zm_okV 79 105 78 0 5 := ⟨⟨zk_78, Or.inl zw_882, by decide +kernel, by decide +kernel⟩, zw_884, _, _, _, rfl, zm_memS 29 rfl⟩
theorem zc_79_19 : zm_okS 79 109 80 1 := ⟨⟨zk_80, Or.inl zw_890, by decide +kernel, by decide +kernel⟩, zw_891, zw_8⟩
theorem zc_79_45 : zm_okS 79 87 73 3 := ⟨⟨zk_73, Or.inl zw_863, by decide +kernel, by decide +kernel⟩, zw_864, zw_8⟩
theorem zc_80_5 : zm_okS 80 87 73 3 := ⟨⟨zk_73, Or.inl zw_863, by decide +kernel, by decide +kernel⟩, zw_864, zw_8⟩
theorem zc_80_16 : zm_okS 80 87 73 3 := ⟨⟨zk_73, Or.inl zw_863, by decide +kernel, by decide +kernel⟩, zw_864, zw_8⟩
theorem zc_80_27 : zm_okS 80 87 73 3 := ⟨⟨zk_73, Or.inl zw_863, by decide +kernel, by decide +kernel⟩, zw_864, zw_8⟩
theorem zc_82_7 : zm_okV 82 119 79 1 5 := ⟨⟨zk_79, Or.inl zw_886, by decide +kernel, by decide +kernel⟩, zw_888, _, _, _, rfl, zm_memS 30 rfl⟩
theorem zc_82_25 : zm_okV 82 91 74 1 5 := ⟨⟨zk_74, Or.inl zw_866, by decide +kernel, by decide +kernel⟩, zw_868, _, _, _, rfl, zm_memS 26 rfl⟩
theorem zc_82_39 : zm_okV 82 229 83 0 5 := ⟨⟨zk_83, Or.inl zw_901, by decide +kernel, by decide +kernel⟩, zw_903, _, _, _, rfl, zm_memS 32 rfl⟩
theorem zc_82_44 : zm_okV 82 123 81 1 5 := ⟨⟨zk_81, Or.inl zw_893, by decide +kernel, by decide +kernel⟩, zw_895, _, _, _, rfl, zm_memS 31 rfl⟩
theorem zc_82_66 : zm_okV 82 232 85 2 5 := ⟨⟨zk_85, Or.inl zw_909, by decide +kernel, by decide +kernel⟩, zw_911, _, _, _, rfl, zm_memS 34 rfl⟩
theorem zc_82_70 : zm_okV 82 235 101 0 5 := ⟨⟨zk_101, Or.inl zw_973, by decide +kernel, by decide +kernel⟩, zw_975, _, _, _, rfl, zm_memS 50 rfl⟩
theorem zc_83_29 : zm_okV 83 126 84 1 5 := ⟨⟨zk_84, Or.inl zw_905, by decide +kernel, by decide +kernel⟩, zw_907, _, _, _, rfl, zm_memS 33 rfl⟩
theorem zc_84_15 : zm_okS 84 109 80 1 := ⟨⟨zk_80, Or.inl zw_890, by decide +kernel, by decide +kernel⟩, zw_891, zw_8⟩
theorem zc_85_8 : zm_okV 85 171 86 2 5 := ⟨⟨zk_86, Or.inl zw_913, by decide +kernel, by decide +kernel⟩, zw_915, _, _, _, rfl, zm_memS 35 rfl⟩
theorem zc_85_26 : zm_okV 85 213 87 0 5 := ⟨⟨zk_87, Or.inl zw_917, by decide +kernel, by decide +kernel⟩, zw_919, _, _, _, rfl, zm_memS 36 rfl⟩
theorem zc_87_30 : zm_okV 87 204 88 0 5 := ⟨⟨zk_88, Or.inl zw_921, by decide +kernel, by decide +kernel⟩, zw_923, _, _, _, rfl, zm_memS 37 rfl⟩
theorem zc_87_71 : zm_okV 87 207 91 2 5 := ⟨⟨zk_91, Or.inl zw_933, by decide +kernel, by decide +kernel⟩, zw_935, _, _, _, rfl, zm_memS 40 rfl⟩
theorem zc_87_82 : zm_okS 87 87 73 3 := ⟨⟨zk_73, Or.inl zw_863, by decide +kernel, by decide +kernel⟩, zw_864, zw_8⟩
theorem zc_87_95 : zm_okV 87 157 90 3 5 := ⟨⟨zk_90, Or.inl zw_929, by decide +kernel, by decide +kernel⟩, zw_931, _, _, _, rfl, zm_memS 39 rfl⟩
theorem zc_87_111 : zm_okV 87 157 90 3 5 := ⟨⟨zk_90, Or.inl zw_929, by decide +kernel, by decide +kernel⟩, zw_931, _, _, _, rfl, zm_memS 39 rfl⟩
theorem zc_87_122 : zm_okS 87 87 73 3 := ⟨⟨zk_73, Or.inl zw_863, by decide +kernel, by decide +kernel⟩, zw_864, zw_8⟩
theorem zc_87_137 : zm_okV 87 153 94 2 5 := ⟨⟨zk_94, Or.inl zw_945, by decide +kernel, by decide +kernel⟩, zw_947, _, _, _, rfl, zm_memS 43 rfl⟩
theorem zc_87_140 : zm_okV 87 193 97 1 5 := ⟨⟨zk_97, Or.inl zw_957, by decide +kernel, by decide +kernel⟩, zw_959, _, _, _, rfl, zm_memS 46 rfl⟩
theorem zc_87_151 : zm_okS 87 87 73 3 := ⟨⟨zk_73, Or.inl zw_863, by decide +kernel, by decide +kernel⟩, zw_864, zw_8⟩
theorem zc_87_162 : zm_okV 87 210 100 1 5 := ⟨⟨zk_100, Or.inl zw_969, by decide +kernel, by decide +kernel⟩, zw_971, _, _, _, rfl, zm_memS 49 rfl⟩
theorem zc_87_184 : zm_okV 87 181 93 2 5 := ⟨⟨zk_93, Or.inl zw_941, by decide +kernel, by decide +kernel⟩, zw_943, _, _, _, rfl, zm_memS 42 rfl⟩
theorem zc_87_198 : zm_okV 87 126 84 1 5 := ⟨⟨zk_84, Or.inl zw_905, by decide +kernel, by decide +kernel⟩, zw_907, _, _, _, rfl, zm_memS 33 rfl⟩
theorem zc_87_207 : zm_okV 87 181 93 2 5 := ⟨⟨zk_93, Or.inl zw_941, by decide +kernel, by decide +kernel⟩, zw_943, _, _, _, rfl, zm_memS 42 rfl⟩
theorem zc_87_210 : zm_okV 87 157 90 3 5 := ⟨⟨zk_90, Or.inl zw_929, by decide +kernel, by decide +kernel⟩, zw_931, _, _, _, rfl, zm_memS 39 rfl⟩
theorem zc_87_233 : zm_okV 87 171 86 2 5 := ⟨⟨zk_86, Or.inl zw_913, by decide +kernel, by decide +kernel⟩, zw_915, _, _, _, rfl, zm_memS 35 rfl⟩
theorem zc_88_49 : zm_okV 88 164 89 1 5 := ⟨⟨zk_89, Or.inl zw_925, by decide +kernel, by decide +kernel⟩, zw_927, _, _, _, rfl, zm_memS 38 rfl⟩
theorem zc_89_19 : zm_okV 89 157 90 3 5 := ⟨⟨zk_90, Or.inl zw_929, by decide +kernel, by decide +kernel⟩, zw_931, _, _, _, rfl, zm_memS 39 rfl⟩
theorem zc_91_15 : zm_okV 91 190 92 1 5 := ⟨⟨zk_92, Or.inl zw_937, by decide +kernel, by decide +kernel⟩, zw_939, _, _, _, rfl, zm_memS 41 rfl⟩
theorem zc_91_67 : zm_okV 91 157 90 3 5 := ⟨⟨zk_90, Or.inl zw_929, by decide +kernel, by decide +kernel⟩, zw_931, _, _, _, rfl, zm_memS 39 rfl⟩
theorem zc_91_131 : zm_okV 91 193 97 1 5 := ⟨⟨zk_97, Or.inl zw_957, by decide +kernel, by decide +kernel⟩, zw_959, _, _, _, rfl, zm_memS 46 rfl⟩
theorem zc_91_138 : zm_okV 91 196 98 0 5 := ⟨⟨zk_98, Or.inl zw_961, by decide +kernel, by decide +kernel⟩, zw_963, _, _, _, rfl, zm_memS 47 rfl⟩
theorem zc_91_155 : zm_okV 91 126 84 1 5 := ⟨⟨zk_84, Or.inl zw_905, by decide +kernel, by decide +kernel⟩, zw_907, _, _, _, rfl, zm_memS 33 rfl⟩
theorem zc_91_183 : zm_okV 91 126 84 1 5 := ⟨⟨zk_84, Or.inl zw_905, by decide +kernel, by decide +kernel⟩, zw_907, _, _, _, rfl, zm_memS 33 rfl⟩
theorem zc_91_192 : zm_okV 91 171 86 2 5 := ⟨⟨zk_86, Or.inl zw_913, by decide +kernel, by decide +kernel⟩, zw_915, _, _, _, rfl, zm_memS 35 rfl⟩
theorem zc_91_230 : zm_okV 91 126 84 1 5 := ⟨⟨zk_84, Or.inl zw_905, by decide +kernel, by decide +kernel⟩, zw_907, _, _, _, rfl, zm_memS 33 rfl⟩
theorem zc_91_239 : zm_okV 91 171 86 2 5 := ⟨⟨zk_86, Or.inl zw_913, by decide +kernel, by decide +kernel⟩, zw_915, _, _, _, rfl, zm_memS 35 rfl⟩
theorem zc_91_257 : zm_okV 91 200 99 3 5 := ⟨⟨zk_99, Or.inl zw_965, by decide +kernel, by decide +kernel⟩, zw_967, _, _, _, rfl, zm_memS 48 rfl⟩
theorem zc_91_274 : zm_okV 91 157 90 3 5 := ⟨⟨zk_90, Or.inl zw_929, by decide +kernel, by decide +kernel⟩, zw_931, _, _, _, rfl, zm_memS 39 rfl⟩
theorem zc_92_39 : zm_okV 92 126 84 1 5 := ⟨⟨zk_84, Or.inl zw_905, by decide +kernel, by decide +kernel⟩, zw_907, _, _, _, rfl, zm_memS 33 rfl⟩
theorem zc_92_48 : zm_okV 92 181 93 2 5 := ⟨⟨zk_93, Or.inl zw_941, by decide +kernel, by decide +kernel⟩, zw_943, _, _, _, rfl, zm_memS 42 rfl⟩
theorem zc_92_86 : zm_okV 92 184 95 1 5 := ⟨⟨zk_95, Or.inl zw_949, by decide +kernel, by decide +kernel⟩, zw_951, _, _, _, rfl, zm_memS 44 rfl⟩
theorem zc_92_124 : zm_okV 92 157 90 3 5 := ⟨⟨zk_90, Or.inl zw_929, by decide +kernel, by decide +kernel⟩, zw_931, _, _, _, rfl, zm_memS 39 rfl⟩
theorem zc_92_136 : zm_okV 92 187 96 3 5 := ⟨⟨zk_96, Or.inl zw_953, by decide +kernel, by decide +kernel⟩, zw_955, _, _, _, rfl, zm_memS 45 rfl⟩
theorem zc_93_10 : zm_okS 93 87 73 3 := ⟨⟨zk_73, Or.inl zw_863, by decide +kernel, by decide +kernel⟩, zw_864, zw_8⟩
theorem zc_93_24 : zm_okV 93 153 94 2 5 := ⟨⟨zk_94, Or.inl zw_945, by decide +kernel, by decide +kernel⟩, zw_947, _, _, _, rfl, zm_memS 43 rfl⟩
theorem zc_96_180 : zm_okV 96 171 86 2 5 := ⟨⟨zk_86, Or.inl zw_913, by decide +kernel, by decide +kernel⟩, zw_915, _, _, _, rfl, zm_memS 35 rfl⟩
theorem zc_97_22 : zm_okV 97 164 89 1 5 := ⟨⟨zk_89, Or.inl zw_925, by decide +kernel, by decide +kernel⟩, zw_927, _, _, _, rfl, zm_memS 38 rfl⟩
theorem zc_97_92 : zm_okV 97 171 86 2 5 := ⟨⟨zk_86, Or.inl zw_913, by decide +kernel, by decide +kernel⟩, zw_915, _, _, _, rfl, zm_memS 35 rfl⟩
theorem zc_99_18 : zm_okV 99 98 75 1 5 := ⟨⟨zk_75, Or.inl zw_870, by decide +kernel, by decide +kernel⟩, zw_872, _, _, _, rfl, zm_memS 27 rfl⟩
theorem zc_100_30 : zm_okV 100 187 96 3 5 := ⟨⟨zk_96, Or.inl zw_953, by decide +kernel, by decide +kernel⟩, zw_955, _, _, _, rfl, zm_memS 45 rfl⟩
theorem zc_100_40 : zm_okV 100 157 90 3 5 := ⟨⟨zk_90, Or.inl zw_929, by decide +kernel, by decide +kernel⟩, zw_931, _, _, _, rfl, zm_memS 39 rfl⟩
theorem zc_103_2 : zm_okV 103 238 104 1 5 := ⟨⟨zk_104, Or.inl zw_985, by decide +kernel, by decide +kernel⟩, zw_987, _, _, _, rfl, zm_memS 51 rfl⟩
theorem zc_104_112 : zm_okV 104 232 85 2 5 := ⟨⟨zk_85, Or.inl zw_909, by decide +kernel, by decide +kernel⟩, zw_911, _, _, _, rfl, zm_memS 34 rfl⟩
theorem zc_105_2 : zm_okV 105 238 104 1 5 := ⟨⟨zk_104, Or.inl zw_985, by decide +kernel, by decide +kernel⟩, zw_987, _, _, _, rfl, zm_memS 51 rfl⟩
theorem zc_105_9 : zm_okV 105 235 101 0 5 := ⟨⟨zk_101, Or.inl zw_973, by decide +kernel, by decide +kernel⟩, zw_975, _, _, _, rfl, zm_memS 50 rfl⟩
theorem zc_106_4 : zm_okS 106 87 73 3 := ⟨⟨zk_73, Or.inl zw_863, by decide +kernel, by decide +kernel⟩, zw_864, zw_8⟩
theorem zc_106_7 : zm_okV 106 91 74 1 5 := ⟨⟨zk_74, Or.inl zw_866, by decide +kernel, by decide +kernel⟩, zw_868, _, _, _, rfl, zm_memS 26 rfl⟩
theorem zy_0 : ∀ w ∈ zm_ownX "java/lang/IllegalArgumentException" 7 prog_15_method_2_code, w ∈ zm_tb ∧ zm_gw w = true := by decide +kernel
theorem zy_1 : ∀ w ∈ zm_ownX "java/lang/IllegalStateException" 7 prog_16_method_2_code, w ∈ zm_tb ∧ zm_gw w = true := by decide +kernel
theorem zy_2 : ∀ w ∈ zm_ownX "java/util/NoSuchElementException" 13 prog_30_method_4_code, w ∈ zm_tb ∧ zm_gw w = true := by decide +kernel
theorem zy_3 : ∀ w ∈ zm_ownX "java/lang/UnsupportedOperationException" 7 prog_23_method_2_code, w ∈ zm_tb ∧ zm_gw w = true := by decide +kernel
theorem zy_4 : ∀ w ∈ zm_ownX "java/lang/ArithmeticException" 7 prog_12_method_2_code, w ∈ zm_tb ∧ zm_gw w = true := by decide +kernel
theorem zx_13_38 : zm_okx 13 38 0 := ⟨26, 28, 30, 7, _, _, prog_15_method_2_code, 2, by decide +kernel, by decide +kernel, by decide +kernel, by decide +kernel, by decide +kernel, by decide +kernel, Or.inl ⟨by decide +kernel, rfl⟩, by decide +kernel, by decide +kernel, rfl, zw_205, zw_206, zw_12, zw_248, by decide +kernel, zm_out0 rfl, zw_249, zy_0⟩
theorem zx_13_78 : zm_okx 13 78 1 := ⟨36, 38, 40, 7, _, _, prog_16_method_2_code, 2, by decide +kernel, by decide +kernel, by decide +kernel, by decide +kernel, by decide +kernel, by decide +kernel, Or.inl ⟨by decide +kernel, rfl⟩, by decide +kernel, by decide +kernel, rfl, zw_275, zw_276, zw_13, zw_284, by decide +kernel, zm_out0 rfl, zw_285, zy_1⟩
theorem zx_20_12 : zm_okx 20 12 0 := ⟨26, 109, 30, 7, _, _, prog_15_method_2_code, 2, by decide +kernel, by decide +kernel, by decide +kernel, by decide +kernel, by decide +kernel, by decide +kernel, Or.inl ⟨by decide +kernel, rfl⟩, by decide +kernel, by decide +kernel, rfl, zw_205, zw_206, zw_12, zw_313, by decide +kernel, zm_out0 rfl, zw_249, zy_0⟩
theorem zx_37_6 : zm_okx 37 6 1 := ⟨128, 130, 132, 7, _, _, prog_16_method_2_code, 2, by decide +kernel, by decide +kernel, by decide +kernel, by decide +kernel, by decide +kernel, by decide +kernel, Or.inl ⟨by decide +kernel, rfl⟩, by decide +kernel, by decide +kernel, rfl, zw_420, zw_276, zw_13, zw_421, by decide +kernel, zm_out0 rfl, zw_422, zy_1⟩
theorem zx_40_29 : zm_okx 40 29 1 := ⟨128, 265, 132, 7, _, _, prog_16_method_2_code, 3, by decide +kernel, by decide +kernel, by decide +kernel, by decide +kernel, by decide +kernel, by decide +kernel, Or.inr ⟨by decide +kernel, rfl⟩, by decide +kernel, by decide +kernel, rfl, zw_420, zw_276, zw_13, zw_515, by decide +kernel, zm_out0 rfl, zw_422, zy_1⟩
theorem zx_42_7 : zm_okx 42 7 1 := ⟨128, 267, 132, 7, _, _, prog_16_method_2_code, 3, by decide +kernel, by decide +kernel, by decide +kernel, by decide +kernel, by decide +kernel, by decide +kernel, Or.inr ⟨by decide +kernel, rfl⟩, by decide +kernel, by decide +kernel, rfl, zw_420, zw_276, zw_13, zw_523, by decide +kernel, zm_out0 rfl, zw_422, zy_1⟩
theorem zx_44_11 : zm_okx 44 11 2 := ⟨70, 257, 74, 13, _, _, prog_30_method_4_code, 3, by decide +kernel, by decide +kernel, by decide +kernel, by decide +kernel, by decide +kernel, by decide +kernel, Or.inr ⟨by decide +kernel, rfl⟩, by decide +kernel, by decide +kernel, rfl, zw_532, zw_533, zw_22, zw_541, by decide +kernel, zm_out0 rfl, zw_542, zy_2⟩
theorem zx_45_10 : zm_okx 45 10 1 := ⟨128, 219, 132, 7, _, _, prog_16_method_2_code, 2, by decide +kernel, by decide +kernel, by decide +kernel, by decide +kernel, by decide +kernel, by decide +kernel, Or.inl ⟨by decide +kernel, rfl⟩, by decide +kernel, by decide +kernel, rfl, zw_420, zw_276, zw_13, zw_552, by decide +kernel, zm_out0 rfl, zw_422, zy_1⟩
theorem zx_51_23 : zm_okx 51 23 3 := ⟨198, 200, 202, 7, _, _, prog_23_method_2_code, 2, by decide +kernel, by decide +kernel, by decide +kernel, by decide +kernel, by decide +kernel, by decide +kernel, Or.inl ⟨by decide +kernel, rfl⟩, by decide +kernel, by decide +kernel, rfl, zw_596, zw_597, zw_24, zw_605, by decide +kernel, zm_out0 rfl, zw_606, zy_3⟩
theorem zx_54_8 : zm_okx 54 8 2 := ⟨70, 271, 74, 13, _, _, prog_30_method_4_code, 3, by decide +kernel, by decide +kernel, by decide +kernel, by decide +kernel, by decide +kernel, by decide +kernel, Or.inr ⟨by decide +kernel, rfl⟩, by decide +kernel, by decide +kernel, rfl, zw_532, zw_533, zw_22, zw_638, by decide +kernel, zm_out0 rfl, zw_542, zy_2⟩
theorem zx_54_27 : zm_okx 54 27 3 := ⟨198, 273, 202, 7, _, _, prog_23_method_2_code, 3, by decide +kernel, by decide +kernel, by decide +kernel, by decide +kernel, by decide +kernel, by decide +kernel, Or.inr ⟨by decide +kernel, rfl⟩, by decide +kernel, by decide +kernel, rfl, zw_596, zw_597, zw_24, zw_639, by decide +kernel, zm_out0 rfl, zw_606, zy_3⟩
theorem zx_55_16 : zm_okx 55 16 3 := ⟨198, 275, 202, 7, _, _, prog_23_method_2_code, 3, by decide +kernel, by decide +kernel, by decide +kernel, by decide +kernel, by decide +kernel, by decide +kernel, Or.inr ⟨by decide +kernel, rfl⟩, by decide +kernel, by decide +kernel, rfl, zw_596, zw_597, zw_24, zw_643, by decide +kernel, zm_out0 rfl, zw_606, zy_3⟩
theorem zx_57_7 : zm_okx 57 7 3 := ⟨198, 269, 202, 7, _, _, prog_23_method_2_code, 3, by decide +kernel, by decide +kernel, by decide +kernel, by decide +kernel, by decide +kernel, by decide +kernel, Or.inr ⟨by decide +kernel, rfl⟩, by decide +kernel, by decide +kernel, rfl, zw_596, zw_597, zw_24, zw_651, by decide +kernel, zm_out0 rfl, zw_606, zy_3⟩
theorem zx_60_4 : zm_okx 60 4 4 := ⟨277, 279, 281, 7, _, _, prog_12_method_2_code, 3, by decide +kernel, by decide +kernel, by decide +kernel, by decide +kernel, by decide +kernel, by decide +kernel, Or.inr ⟨by decide +kernel, rfl⟩, by decide +kernel, by decide +kernel, rfl, zw_662, zw_663, zw_26, zw_671, by decide +kernel, zm_out0 rfl, zw_672, zy_4⟩
theorem zx_62_7 : zm_okx 62 7 2 := ⟨70, 72, 74, 13, _, _, prog_30_method_4_code, 2, by decide +kernel, by decide +kernel, by decide +kernel, by decide +kernel, by decide +kernel, by decide +kernel, Or.inl ⟨by decide +kernel, rfl⟩, by decide +kernel, by decide +kernel, rfl, zw_532, zw_533, zw_22, zw_685, by decide +kernel, zm_out0 rfl, zw_542, zy_2⟩
theorem zx_65_14 : zm_okx 65 14 2 := ⟨70, 72, 74, 13, _, _, prog_30_method_4_code, 2, by decide +kernel, by decide +kernel, by decide +kernel, by decide +kernel, by decide +kernel, by decide +kernel, Or.inl ⟨by decide +kernel, rfl⟩, by decide +kernel, by decide +kernel, rfl, zw_532, zw_533, zw_22, zw_685, by decide +kernel, zm_out0 rfl, zw_542, zy_2⟩
theorem zx_69_10 : zm_okx 69 10 0 := ⟨96, 98, 100, 7, _, _, prog_15_method_2_code, 2, by decide +kernel, by decide +kernel, by decide +kernel, by decide +kernel, by decide +kernel, by decide +kernel, Or.inl ⟨by decide +kernel, rfl⟩, by decide +kernel, by decide +kernel, rfl, zw_711, zw_206, zw_12, zw_712, by decide +kernel, zm_out0 rfl, zw_713, zy_0⟩
theorem zt_11_0 : zm_cat 11 4 0 12 := ⟨_, tableOf [], ⟨0, 9, 12, 13⟩, tableOf [(0, 9, 16, 15)], rfl, rfl, fun _ h => absurd h List.not_mem_nil, rfl, ⟨by decide, _, zw_192, zw_207⟩, rfl⟩
theorem zt_11_1 : zm_cat 11 4 1 16 := ⟨_, tableOf [(0, 9, 12, 13)], ⟨0, 9, 16, 15⟩, tableOf [], rfl, rfl, List.forall_mem_cons.mpr ⟨Or.inr ⟨by decide, _, zw_192, zm_memE 4 rfl⟩, fun _ h => absurd h List.not_mem_nil⟩, rfl, ⟨by decide, _, zw_193, zw_277⟩, rfl⟩
theorem zt_15_0 : zm_cat 15 3 0 11 := ⟨_, tableOf [], ⟨0, 8, 11, 13⟩, tableOf [], rfl, rfl, fun _ h => absurd h List.not_mem_nil, rfl, ⟨by decide, _, zw_192, zw_207⟩, rfl⟩
theorem zt_33_0 : zm_cat 33 3 0 11 := ⟨_, tableOf [], ⟨0, 8, 11, 13⟩, tableOf [(0, 8, 14, 24), (0, 8, 17, 26), (0, 8, 20, 15), (0, 8, 23, 28)], rfl, rfl, fun _ h => absurd h List.not_mem_nil, rfl, ⟨by decide, _, zw_192, zw_207⟩, rfl⟩
theorem zt_33_2 : zm_cat 33 3 2 14 := ⟨_, tableOf [(0, 8, 11, 13)], ⟨0, 8, 14, 24⟩, tableOf [(0, 8, 17, 26), (0, 8, 20, 15), (0, 8, 23, 28)], rfl, rfl, List.forall_mem_cons.mpr ⟨Or.inr ⟨by decide, _, zw_192, zm_memE 8 rfl⟩, fun _ h => absurd h List.not_mem_nil⟩, rfl, ⟨by decide, _, zw_401, zw_534⟩, rfl⟩
theorem zt_33_4 : zm_cat 33 3 4 17 := ⟨_, tableOf [(0, 8, 11, 13), (0, 8, 14, 24)], ⟨0, 8, 17, 26⟩, tableOf [(0, 8, 20, 15), (0, 8, 23, 28)], rfl, rfl, List.forall_mem_cons.mpr ⟨Or.inr ⟨by decide, _, zw_192, zm_memE 16 rfl⟩, List.forall_mem_cons.mpr ⟨Or.inr ⟨by decide, _, zw_401, zm_memE 18 rfl⟩, fun _ h => absurd h List.not_mem_nil⟩⟩, rfl, ⟨by decide, _, zw_402, zw_664⟩, rfl⟩
theorem zt_33_1 : zm_cat 33 3 1 20 := ⟨_, tableOf [(0, 8, 11, 13), (0, 8, 14, 24), (0, 8, 17, 26)], ⟨0, 8, 20, 15⟩, tableOf [(0, 8, 23, 28)], rfl, rfl, List.forall_mem_cons.mpr ⟨Or.inr ⟨by decide, _, zw_192, zm_memE 4 rfl⟩, List.forall_mem_cons.mpr ⟨Or.inr ⟨by decide, _, zw_401, zm_memE 5 rfl⟩, List.forall_mem_cons.mpr ⟨Or.inr ⟨by decide, _, zw_402, zm_memE 7 rfl⟩, fun _ h => absurd h List.not_mem_nil⟩⟩⟩, rfl, ⟨by decide, _, zw_193, zw_277⟩, rfl⟩
theorem zt_33_3 : zm_cat 33 3 3 23 := ⟨_, tableOf [(0, 8, 11, 13), (0, 8, 14, 24), (0, 8, 17, 26), (0, 8, 20, 15)], ⟨0, 8, 23, 28⟩, tableOf [], rfl, rfl, List.forall_mem_cons.mpr ⟨Or.inr ⟨by decide, _, zw_192, zm_memE 12 rfl⟩, List.forall_mem_cons.mpr ⟨Or.inr ⟨by decide, _, zw_401, zm_memE 14 rfl⟩, List.forall_mem_cons.mpr ⟨Or.inr ⟨by decide, _, zw_402, zm_memE 15 rfl⟩, List.forall_mem_cons.mpr ⟨Or.inr ⟨by decide, _, zw_193, zm_memE 13 rfl⟩, fun _ h => absurd h List.not_mem_nil⟩⟩⟩⟩, rfl, ⟨by decide, _, zw_403, zw_598⟩, rfl⟩
theorem zt_61_2 : zm_cat 61 3 2 11 := ⟨_, tableOf [], ⟨0, 8, 11, 24⟩, tableOf [(0, 8, 14, 28)], rfl, rfl, fun _ h => absurd h List.not_mem_nil, rfl, ⟨by decide, _, zw_401, zw_534⟩, rfl⟩
theorem zt_61_3 : zm_cat 61 3 3 14 := ⟨_, tableOf [(0, 8, 11, 24)], ⟨0, 8, 14, 28⟩, tableOf [], rfl, rfl, List.forall_mem_cons.mpr ⟨Or.inr ⟨by decide, _, zw_401, zm_memE 14 rfl⟩, fun _ h => absurd h List.not_mem_nil⟩, rfl, ⟨by decide, _, zw_403, zw_598⟩, rfl⟩
theorem zt_63_2 : zm_cat 63 3 2 11 := ⟨_, tableOf [], ⟨0, 8, 11, 24⟩, tableOf [(0, 8, 14, 26), (0, 8, 17, 15), (0, 8, 20, 28)], rfl, rfl, fun _ h => absurd h List.not_mem_nil, rfl, ⟨by decide, _, zw_401, zw_534⟩, rfl⟩
theorem zt_63_4 : zm_cat 63 3 4 14 := ⟨_, tableOf [(0, 8, 11, 24)], ⟨0, 8, 14, 26⟩, tableOf [(0, 8, 17, 15), (0, 8, 20, 28)], rfl, rfl, List.forall_mem_cons.mpr ⟨Or.inr ⟨by decide, _, zw_401, zm_memE 18 rfl⟩, fun _ h => absurd h List.not_mem_nil⟩, rfl, ⟨by decide, _, zw_402, zw_664⟩, rfl⟩
theorem zt_63_1 : zm_cat 63 3 1 17 := ⟨_, tableOf [(0, 8, 11, 24), (0, 8, 14, 26)], ⟨0, 8, 17, 15⟩, tableOf [(0, 8, 20, 28)], rfl, rfl, List.forall_mem_cons.mpr ⟨Or.inr ⟨by decide, _, zw_401, zm_memE 5 rfl⟩, List.forall_mem_cons.mpr ⟨Or.inr ⟨by decide, _, zw_402, zm_memE 7 rfl⟩, fun _ h => absurd h List.not_mem_nil⟩⟩, rfl, ⟨by decide, _, zw_193, zw_277⟩, rfl⟩
theorem zt_63_3 : zm_cat 63 3 3 20 := ⟨_, tableOf [(0, 8, 11, 24), (0, 8, 14, 26), (0, 8, 17, 15)], ⟨0, 8, 20, 28⟩, tableOf [], rfl, rfl, List.forall_mem_cons.mpr ⟨Or.inr ⟨by decide, _, zw_401, zm_memE 14 rfl⟩, List.forall_mem_cons.mpr ⟨Or.inr ⟨by decide, _, zw_402, zm_memE 15 rfl⟩, List.forall_mem_cons.mpr ⟨Or.inr ⟨by decide, _, zw_193, zm_memE 13 rfl⟩, fun _ h => absurd h List.not_mem_nil⟩⟩⟩, rfl, ⟨by decide, _, zw_403, zw_598⟩, rfl⟩
theorem zt_66_2 : zm_cat 66 3 2 11 := ⟨_, tableOf [], ⟨0, 8, 11, 24⟩, tableOf [(0, 8, 14, 26), (0, 8, 17, 15), (0, 8, 20, 28)], rfl, rfl, fun _ h => absurd h List.not_mem_nil, rfl, ⟨by decide, _, zw_401, zw_534⟩, rfl⟩
theorem zt_66_4 : zm_cat 66 3 4 14 := ⟨_, tableOf [(0, 8, 11, 24)], ⟨0, 8, 14, 26⟩, tableOf [(0, 8, 17, 15), (0, 8, 20, 28)], rfl, rfl, List.forall_mem_cons.mpr ⟨Or.inr ⟨by decide, _, zw_401, zm_memE 18 rfl⟩, fun _ h => absurd h List.not_mem_nil⟩, rfl, ⟨by decide, _, zw_402, zw_664⟩, rfl⟩
theorem zt_66_1 : zm_cat 66 3 1 17 := ⟨_, tableOf [(0, 8, 11, 24), (0, 8, 14, 26)], ⟨0, 8, 17, 15⟩, tableOf [(0, 8, 20, 28)], rfl, rfl, List.forall_mem_cons.mpr ⟨Or.inr ⟨by decide, _, zw_401, zm_memE 5 rfl⟩, List.forall_mem_cons.mpr ⟨Or.inr ⟨by decide, _, zw_402, zm_memE 7 rfl⟩, fun _ h => absurd h List.not_mem_nil⟩⟩, rfl, ⟨by decide, _, zw_193, zw_277⟩, rfl⟩
theorem zt_66_3 : zm_cat 66 3 3 20 := ⟨_, tableOf [(0, 8, 11, 24), (0, 8, 14, 26), (0, 8, 17, 15)], ⟨0, 8, 20, 28⟩, tableOf [], rfl, rfl, List.forall_mem_cons.mpr ⟨Or.inr ⟨by decide, _, zw_401, zm_memE 14 rfl⟩, List.forall_mem_cons.mpr ⟨Or.inr ⟨by decide, _, zw_402, zm_memE 15 rfl⟩, List.forall_mem_cons.mpr ⟨Or.inr ⟨by decide, _, zw_193, zm_memE 13 rfl⟩, fun _ h => absurd h List.not_mem_nil⟩⟩⟩, rfl, ⟨by decide, _, zw_403, zw_598⟩, rfl⟩
theorem zt_68_0 : zm_cat 68 2 0 8 := ⟨_, tableOf [], ⟨0, 5, 8, 13⟩, tableOf [(0, 5, 11, 24)], rfl, rfl, fun _ h => absurd h List.not_mem_nil, rfl, ⟨by decide, _, zw_192, zw_207⟩, rfl⟩
theorem zt_68_2 : zm_cat 68 2 2 11 := ⟨_, tableOf [(0, 5, 8, 13)], ⟨0, 5, 11, 24⟩, tableOf [], rfl, rfl, List.forall_mem_cons.mpr ⟨Or.inr ⟨by decide, _, zw_192, zm_memE 8 rfl⟩, fun _ h => absurd h List.not_mem_nil⟩, rfl, ⟨by decide, _, zw_401, zw_534⟩, rfl⟩
end
section
theorem zm_lk_mem {l : List (Nat × zm_I)} {pc : Nat} {q : zm_I} (h : zm_lk l pc = some q) : (pc, q) ∈ l := by
  induction l with
  | nil => cases h
  | cons a r ih =>
    unfold zm_lk at h
    split at h
    · rename_i hp
      cases Option.some.inj h
      rw [← Nat.eq_of_beq_eq_true hp]
      exact List.mem_cons_self
    · exact List.mem_cons_of_mem _ (ih h)
theorem zm_okd {k : Nat} {l : List (Nat × zm_I)} (h : (l.all fun e => decide (decode (zm_by k) e.1 = .ok (e.2.1, zm_ln e.2))) = true) (h2 : ∀ e ∈ l, zm_okq k e.2) : ∀ e ∈ l, zm_oke k e.1 e.2 := fun e he => ⟨of_decide_eq_true (List.all_eq_true.mp h e he), h2 e he⟩
theorem zm_all (k : Nat) : ∀ e ∈ zm_cs.getD k [], zm_oke k e.1 e.2 := by
  match k with
  | 0 => exact zm_okd zd_0 zq_0
  | 1 => exact zm_okd zd_1 zq_1
  | 2 => exact zm_okd zd_2 zq_2
  | 3 => exact zm_okd zd_3 zq_3
  | 4 => exact zm_okd zd_4 zq_4
  | 5 => exact zm_okd zd_5 zq_5
  | 6 => exact zm_okd zd_6 zq_6
  | 7 => exact zm_okd zd_7 zq_7
  | 8 => exact zm_okd zd_8 zq_8
  | 9 => exact zm_okd zd_9 zq_9
  | 10 => exact zm_okd zd_10 zq_10
  | 11 => exact zm_okd zd_11 zq_11
  | 12 => exact zm_okd zd_12 zq_12
  | 13 => exact zm_okd zd_13 zq_13
  | 14 => exact zm_okd zd_14 zq_14
  | 15 => exact zm_okd zd_15 zq_15
  | 16 => exact zm_okd zd_16 zq_16
  | 17 => exact zm_okd zd_17 zq_17
  | 18 => exact zm_okd zd_18 zq_18
  | 19 => exact zm_okd zd_19 zq_19
  | 20 => exact zm_okd zd_20 zq_20
  | 21 => exact zm_okd zd_21 zq_21
  | 22 => exact zm_okd zd_22 zq_22
  | 23 => exact zm_okd zd_23 zq_23
  | 24 => exact zm_okd zd_24 zq_24
  | 25 => exact zm_okd zd_25 zq_25
  | 26 => exact zm_okd zd_26 zq_26
  | 27 => exact zm_okd zd_27 zq_27
  | 28 => exact zm_okd zd_28 zq_28
  | 29 => exact zm_okd zd_29 zq_29
  | 30 => exact zm_okd zd_30 zq_30
  | 31 => exact zm_okd zd_31 zq_31
  | 32 => exact zm_okd zd_32 zq_32
  | 33 => exact zm_okd zd_33 zq_33
  | 34 => exact zm_okd zd_34 zq_34
  | 35 => exact zm_okd zd_35 zq_35
  | 36 => exact zm_okd zd_36 zq_36
  | 37 => exact zm_okd zd_37 zq_37
  | 38 => exact zm_okd zd_38 zq_38
  | 39 => exact zm_okd zd_39 zq_39
  | 40 => exact zm_okd zd_40 zq_40
  | 41 => exact zm_okd zd_41 zq_41
  | 42 => exact zm_okd zd_42 zq_42
  | 43 => exact zm_okd zd_43 zq_43
  | 44 => exact zm_okd zd_44 zq_44
  | 45 => exact zm_okd zd_45 zq_45
  | 46 => exact zm_okd zd_46 zq_46
  | 47 => exact zm_okd zd_47 zq_47
  | 48 => exact zm_okd zd_48 zq_48
  | 49 => exact zm_okd zd_49 zq_49
  | 50 => exact zm_okd zd_50 zq_50
  | 51 => exact zm_okd zd_51 zq_51
  | 52 => exact zm_okd zd_52 zq_52
  | 53 => exact zm_okd zd_53 zq_53
  | 54 => exact zm_okd zd_54 zq_54
  | 55 => exact zm_okd zd_55 zq_55
  | 56 => exact zm_okd zd_56 zq_56
  | 57 => exact zm_okd zd_57 zq_57
  | 58 => exact zm_okd zd_58 zq_58
  | 59 => exact zm_okd zd_59 zq_59
  | 60 => exact zm_okd zd_60 zq_60
  | 61 => exact zm_okd zd_61 zq_61
  | 62 => exact zm_okd zd_62 zq_62
  | 63 => exact zm_okd zd_63 zq_63
  | 64 => exact zm_okd zd_64 zq_64
  | 65 => exact zm_okd zd_65 zq_65
  | 66 => exact zm_okd zd_66 zq_66
  | 67 => exact zm_okd zd_67 zq_67
  | 68 => exact zm_okd zd_68 zq_68
  | 69 => exact zm_okd zd_69 zq_69
  | 70 => exact zm_okd zd_70 zq_70
  | 71 => exact zm_okd zd_71 zq_71
  | 72 => exact zm_okd zd_72 zq_72
  | 73 => exact zm_okd zd_73 zq_73
  | 74 => exact zm_okd zd_74 zq_74
  | 75 => exact zm_okd zd_75 zq_75
  | 76 => exact zm_okd zd_76 zq_76
  | 77 => exact zm_okd zd_77 zq_77
  | 78 => exact zm_okd zd_78 zq_78
  | 79 => exact zm_okd zd_79 zq_79
  | 80 => exact zm_okd zd_80 zq_80
  | 81 => exact zm_okd zd_81 zq_81
  | 82 => exact zm_okd zd_82 zq_82
  | 83 => exact zm_okd zd_83 zq_83
  | 84 => exact zm_okd zd_84 zq_84
  | 85 => exact zm_okd zd_85 zq_85
  | 86 => exact zm_okd zd_86 zq_86
  | 87 => exact zm_okd zd_87 zq_87
  | 88 => exact zm_okd zd_88 zq_88
  | 89 => exact zm_okd zd_89 zq_89
  | 90 => exact zm_okd zd_90 zq_90
  | 91 => exact zm_okd zd_91 zq_91
  | 92 => exact zm_okd zd_92 zq_92
  | 93 => exact zm_okd zd_93 zq_93
  | 94 => exact zm_okd zd_94 zq_94
  | 95 => exact zm_okd zd_95 zq_95
  | 96 => exact zm_okd zd_96 zq_96
  | 97 => exact zm_okd zd_97 zq_97
  | 98 => exact zm_okd zd_98 zq_98
  | 99 => exact zm_okd zd_99 zq_99
  | 100 => exact zm_okd zd_100 zq_100
  | 101 => exact zm_okd zd_101 zq_101
  | 102 => exact zm_okd zd_102 zq_102
  | 103 => exact zm_okd zd_103 zq_103
  | 104 => exact zm_okd zd_104 zq_104
  | 105 => exact zm_okd zd_105 zq_105
  | 106 => exact zm_okd zd_106 zq_106
  | 107 => exact zm_okd zd_107 zq_107
  | k + 108 => intro e he; exact absurd he List.not_mem_nil
theorem zm_T : zm_okt := ⟨fun mi pc q h => zm_all mi (pc, q) (zm_lk_mem (l := zm_cs.getD mi []) h), by
  intro q hq C hC
  rw [List.mem_singleton.mp hq] at hC ⊢
  cases Option.some.inj (show some (FieldType.object "NeedMachine$Definition") = some (.object C) from hC)
  exact ⟨_, _, _, rfl, Or.inl rfl⟩⟩
end
section
/-! THE LAW's START: the bundle N of the small machine -/
theorem zm_clk : ∀ q ∈ zm_cl, (∀ w ∈ u_ws q.1 q.2.1 q.2.2, w ∈ zm_tb) ∧ ∃ n, Cond.instantiable q.1 n ∈ zm_tb := List.forall_mem_cons.mpr ⟨⟨zm_f0.1, _, zw_28⟩, List.forall_mem_cons.mpr ⟨⟨zm_f1.1, _, zw_36⟩, List.forall_mem_cons.mpr ⟨⟨zm_f2.1, _, zw_70⟩, List.forall_mem_cons.mpr ⟨⟨zm_f3.1, _, zw_76⟩, List.forall_mem_cons.mpr ⟨⟨zm_f4.1, _, zw_103⟩, List.forall_mem_cons.mpr ⟨⟨zm_f5.1, _, zw_715⟩, List.forall_mem_cons.mpr ⟨⟨zm_f6.1, _, zw_327⟩, List.forall_mem_cons.mpr ⟨⟨zm_f7.1, _, zw_355⟩, List.forall_mem_cons.mpr ⟨⟨zm_f8.1, _, zw_566⟩, List.forall_mem_cons.mpr ⟨⟨zm_f9.1, _, zw_617⟩, fun _ h => absurd h List.not_mem_nil⟩⟩⟩⟩⟩⟩⟩⟩⟩⟩
theorem zm_arO {A : Array Value} {s : State} {C : String} (h : (Cond.arrayOver (.object C)).before A s = true) : ∃ cA : ClassId, ArrOfT s cA (.object C) ∧ va_RA s cA (.object C) := by
  obtain ⟨comp, c, k, h1, h2, h3, h4, h5⟩ := Cond.arrayOver_spec h
  exact ⟨c, fun n z => ⟨fun k h => (by cases h), k, h3, comp, h4⟩, k, comp, h3, h4, h1, h5⟩
theorem zm_arP {A : Array Value} {s : State} {ty : FieldType} (h : (Cond.arrayClass ty).before A s = true) : ∃ cA : ClassId, ArrOfT s cA ty ∧ s.vm.findClass ("[" ++ ty.toString) = some cA := by
  obtain ⟨c, k, comp, h1, h2, h3⟩ := Cond.arrayClass_spec h
  exact ⟨c, fun n z => ⟨fun k h => (by cases h), k, h2, comp, h3⟩, h1⟩
theorem zm_arrRef {A : Array Value} {s : State} {t : Term} {ty : FieldType} (h : (Cond.arrayOf t ty).before A s = true) : ∃ a : Nat, t.eval A s none [] s = some (.ref a) ∧ a < s.heap.size := by
  simp only [Cond.before, Cond.holds, Cond.value] at h
  split at h
  · simp at h
  · split at h
    · rename_i a ha
      refine ⟨a, ha, ?_⟩
      cases hc : s.heap[a]? with
      | none => rw [hc] at h; simp at h
      | some cell => exact (Array.getElem?_eq_some_iff.mp hc).1
    · simp at h
    · simp at h
def zm_G0h (L : Nat) (xs : Nat → Int32) : zm_H := ([.inl (0, L, .inl xs), .inr (99, [])], 0)
set_option maxHeartbeats 1000000 in
theorem zm_start {s : State} {b L : Nat} {xs : Nat → Int32} (l : Launch) (hlt : l.stackTraces = false) (hts : ∀ w ∈ lw_tbl, w.before #[Value.ref b] s = true) (hX : va_X b L xs s s.heap) (hbl : b < s.heap.size) (hgv : (Jvm.Cond.and given_1 narrow_1).before #[Value.ref b] s = true) :
    ∃ N : zm_N, N.l = l ∧ N.s0 = s ∧ N.ad 0 = b ∧ zm_Rp N (zm_G0h L xs) s.heap := by
  have hex : ∀ w ∈ zm_ex, w.before #[Value.ref b] s = true := fun w hw => flat_of_before _ hgv w ((by decide +kernel : ∀ w ∈ zm_ex, w ∈ flatC (Jvm.Cond.and given_1 narrow_1)) w hw)
  have htb : ∀ w ∈ zm_tb, w.before #[Value.ref b] s = true := fun w hw => (List.mem_append.mp hw).elim (hts w) (hex w)
  have hcl : ∀ k : Nat, ∃ (cC : ClassId) (iS : Nat → Nat), ∀ q : vw_C, zm_cl[k]? = some q → u_Kn s q.1 q.2.1 q.2.2 cC iS := by
    intro k
    cases h : zm_cl[k]? with
    | none => exact ⟨0, fun _ => 0, fun q hq => by cases hq⟩
    | some q =>
      obtain ⟨h1, n, h2⟩ := zm_clk q (List.mem_of_getElem? h)
      obtain ⟨cC, iS, hk⟩ := u_known htb h1 (htb _ h2)
      exact ⟨cC, iS, fun q' hq' => by cases hq'; exact hk⟩
  have har : ∀ t : Nat, ∃ cA : ClassId, ∀ ty : FieldType, zm_aty[t]? = some ty → ArrOfT s cA ty ∧ va_RA s cA ty := by
    intro t
    match t with
    | 0 => obtain ⟨cA, h1, h2⟩ := zm_arP (htb _ zw_853); exact ⟨cA, fun ty h => by cases Option.some.inj (show some FieldType.int = some ty from h); exact ⟨h1, h2⟩⟩
    | 1 => obtain ⟨cA, h1, h2⟩ := zm_arP (htb _ zw_68); exact ⟨cA, fun ty h => by cases Option.some.inj (show some FieldType.char = some ty from h); exact ⟨h1, h2⟩⟩
    | 2 => obtain ⟨cA, h1, h2⟩ := zm_arP (htb _ zw_1002); exact ⟨cA, fun ty h => by cases Option.some.inj (show some FieldType.long = some ty from h); exact ⟨h1, h2⟩⟩
    | 3 => obtain ⟨cA, h1, h2⟩ := zm_arP (htb _ zw_854); exact ⟨cA, fun ty h => by cases Option.some.inj (show some FieldType.boolean = some ty from h); exact ⟨h1, h2⟩⟩
    | 4 => obtain ⟨cA, h1, h2⟩ := zm_arO (htb _ zw_152); exact ⟨cA, fun ty h => by cases Option.some.inj (show some (FieldType.object "NeedMachine$Definition") = some ty from h); exact ⟨h1, h2⟩⟩
    | 5 => obtain ⟨cA, h1, h2⟩ := zm_arO (htb _ (by decide +kernel : Cond.arrayOver (.object "java/lang/Object") ∈ zm_tb)); exact ⟨cA, fun ty h => by cases Option.some.inj (show some (FieldType.object "java/lang/Object") = some ty from h); exact ⟨h1, h2⟩⟩
    | t + 6 => exact ⟨0, fun ty h => by cases (show none = some ty from h)⟩
  have hda : (Cond.arrayOf (.static "java/util/ArrayList" "DEFAULTCAPACITY_EMPTY_ELEMENTDATA" "[Ljava/lang/Object;") (.object "java/lang/Object")).before #[Value.ref b] s = true := flat_of_before _ hgv _ (by decide +kernel)
  obtain ⟨t, ht, htl⟩ := zm_arrRef hda
  have hZ : va_Z "java/util/ArrayList" "DEFAULTCAPACITY_EMPTY_ELEMENTDATA" "[Ljava/lang/Object;" (.ref t) (fun a => s.heap.size ≤ a) s s.heap := va_Zref (htb _ (by decide +kernel : Cond.laysStatic "java/util/ArrayList" "DEFAULTCAPACITY_EMPTY_ELEMENTDATA" "[Ljava/lang/Object;" ∈ zm_tb)) (htb _ (by decide +kernel : Cond.initialized "java/util/ArrayList" ∈ zm_tb)) ht (fun a ha => Nat.not_le.mpr ha)
  refine ⟨⟨(l, s, (fun k => Classical.choose (hcl k), fun k => Classical.choose (Classical.choose_spec (hcl k))), fun k => Classical.choose (har k), fun k => if k = 0 then b else t), ⟨_, htb⟩, ⟨fun c q hq => Classical.choose_spec (Classical.choose_spec (hcl c)) q hq, fun k ty hk => Classical.choose_spec (har k) ty hk⟩, hlt, ?_, ?_⟩, rfl, rfl, rfl, ?_, ?_, ?_, ?_⟩
  · intro k hk
    show (if k = 0 then b else t) < s.heap.size
    split
    · exact hbl
    · exact htl
  · intro q hq
    rw [List.mem_singleton.mp hq]
    exact ⟨by decide, hZ⟩
  · rfl
  · exact Nat.le_refl 2
  · intro k x hk
    match k with
    | 0 =>
      cases Option.some.inj (show some (Sum.inl (0, L, .inl xs) : zm_E) = some x from hk)
      obtain ⟨scr, h1, h2, h3, h4, h5⟩ := hX
      exact ⟨fun z => absurd z (by decide), scr, .int, rfl, h1, h2, h3, h4, fun j hj => h5 j hj⟩
    | 1 =>
      cases Option.some.inj (show some (Sum.inr (99, []) : zm_E) = some x from hk)
      exact fun z => absurd z (by decide)
    | k + 2 => cases (show none = some x from hk)
  · intro q hq
    rfl
end
section
/-! THE MAKINGS AND THE LAW'S BEGINNING, laid by wip/gen/p1law.py -/
set_option maxHeartbeats 40000000 in
set_option maxRecDepth 100000 in
/-- NeedMachine$Text.<init> -/
theorem zi_1 {L : Nat} {xs : Nat → Int32} (N : zm_N) (d : Nat) (hd : 1 ≤ d) : zm_J N d 3 0 [(0, .ref 3)] [] ([.inl (0, L, .inl xs), .inr (99, []), .inr (0, [.null, .null, .null, .null, .int 0, .int 0, .int 0, .int 0, .int 0]), .inr (1, [.int 0, .int 0, .null, .null, .int 0, .int 0, .int 0, .int 0])], 17) (fun z G => z = .inl none ∧ G = ([.inl (0, L, .inl xs), .inr (99, []), .inr (0, [.null, .null, .null, .null, .int 0, .int 0, .int 0, .int 0, .int 0]), .inr (1, [.int 0, .int (-1), .ref 4, .ref 5, .int 0, .int 0, .int 0, .int 0]), .inl (1, 40, .inl fun _ => 0), .inl (1, 4, .inl fun _ => 0)], 61)) := by
  obtain ⟨d, rfl⟩ : ∃ e, d = e + 1 := ⟨d - 1, by omega⟩
  refine zm_J_run zm_T 1 (pc' := 1) (lv' := [(0, .ref 3)]) (st' := [.ref 3]) (G' := ([.inl (0, L, .inl xs), .inr (99, []), .inr (0, [.null, .null, .null, .null, .int 0, .int 0, .int 0, .int 0, .int 0]), .inr (1, [.int 0, .int 0, .null, .null, .int 0, .int 0, .int 0, .int 0])], 17)) rfl ?_
  refine zm_J_O (zm_T.1 3 1 _ rfl).1 zc_3_1 (Nat.le_of_ble_eq_true rfl) ?_
  refine zm_J_run zm_T 8 (pc' := 18) (lv' := [(0, .ref 3)]) (st' := [.ref 3]) (G' := ([.inl (0, L, .inl xs), .inr (99, []), .inr (0, [.null, .null, .null, .null, .int 0, .int 0, .int 0, .int 0, .int 0]), .inr (1, [.int 0, .int (-1), .ref 4, .null, .int 0, .int 0, .int 0, .int 0]), .inl (1, 40, .inl fun _ => 0)], 57)) rfl ?_
  refine zm_J_run zm_T 3 (pc' := 24) (lv' := [(0, .ref 3)]) (st' := []) (G' := ([.inl (0, L, .inl xs), .inr (99, []), .inr (0, [.null, .null, .null, .null, .int 0, .int 0, .int 0, .int 0, .int 0]), .inr (1, [.int 0, .int (-1), .ref 4, .ref 5, .int 0, .int 0, .int 0, .int 0]), .inl (1, 40, .inl fun _ => 0), .inl (1, 4, .inl fun _ => 0)], 61)) rfl ?_
  exact zm_J_fin zm_T rfl rfl ⟨rfl, rfl⟩

set_option maxHeartbeats 40000000 in
set_option maxRecDepth 100000 in
/-- NeedMachine$Value.<init> -/
theorem zi_2 {L : Nat} {xs : Nat → Int32} (N : zm_N) (d : Nat) (hd : 1 ≤ d) : zm_J N d 5 0 [(0, .ref 7)] [] ([.inl (0, L, .inl xs), .inr (99, []), .inr (0, [.ref 3, .null, .null, .null, .int 0, .int 0, .int 0, .int 0, .int 0]), .inr (1, [.int 0, .int (-1), .ref 4, .ref 5, .int 0, .int 0, .int 0, .int 0]), .inl (1, 40, .inl fun _ => 0), .inl (1, 4, .inl fun _ => 0), .inr (2, [.null, .null, .null, .null, .int 0, .int 0, .int 0]), .inr (3, [.int 0, .int 0, .null, .null, .null])], 73) (fun z G => z = .inl none ∧ G = ([.inl (0, L, .inl xs), .inr (99, []), .inr (0, [.ref 3, .null, .null, .null, .int 0, .int 0, .int 0, .int 0, .int 0]), .inr (1, [.int 0, .int (-1), .ref 4, .ref 5, .int 0, .int 0, .int 0, .int 0]), .inl (1, 40, .inl fun _ => 0), .inl (1, 4, .inl fun _ => 0), .inr (2, [.null, .null, .null, .null, .int 0, .int 0, .int 0]), .inr (3, [.int 0, .int 0, .null, .null, .null])], 73)) := by
  obtain ⟨d, rfl⟩ : ∃ e, d = e + 1 := ⟨d - 1, by omega⟩
  refine zm_J_run zm_T 1 (pc' := 1) (lv' := [(0, .ref 7)]) (st' := [.ref 7]) (G' := ([.inl (0, L, .inl xs), .inr (99, []), .inr (0, [.ref 3, .null, .null, .null, .int 0, .int 0, .int 0, .int 0, .int 0]), .inr (1, [.int 0, .int (-1), .ref 4, .ref 5, .int 0, .int 0, .int 0, .int 0]), .inl (1, 40, .inl fun _ => 0), .inl (1, 4, .inl fun _ => 0), .inr (2, [.null, .null, .null, .null, .int 0, .int 0, .int 0]), .inr (3, [.int 0, .int 0, .null, .null, .null])], 73)) rfl ?_
  refine zm_J_O (zm_T.1 5 1 _ rfl).1 zc_5_1 (Nat.le_of_ble_eq_true rfl) ?_
  exact zm_J_fin zm_T rfl rfl ⟨rfl, rfl⟩

set_option maxHeartbeats 40000000 in
set_option maxRecDepth 100000 in
/-- java/util/AbstractCollection.<init> -/
theorem zi_3 {L : Nat} {xs : Nat → Int32} (N : zm_N) (d : Nat) (hd : 1 ≤ d) : zm_J N d 8 0 [(0, .ref 8)] [] ([.inl (0, L, .inl xs), .inr (99, []), .inr (0, [.ref 3, .null, .null, .null, .int 0, .int 0, .int 0, .int 0, .int 0]), .inr (1, [.int 0, .int (-1), .ref 4, .ref 5, .int 0, .int 0, .int 0, .int 0]), .inl (1, 40, .inl fun _ => 0), .inl (1, 4, .inl fun _ => 0), .inr (2, [.ref 7, .null, .null, .null, .int 0, .int 0, .int 0]), .inr (3, [.int 1, .int 0, .null, .null, .null]), .inr (4, [.null, .int 0, .int 0])], 76) (fun z G => z = .inl none ∧ G = ([.inl (0, L, .inl xs), .inr (99, []), .inr (0, [.ref 3, .null, .null, .null, .int 0, .int 0, .int 0, .int 0, .int 0]), .inr (1, [.int 0, .int (-1), .ref 4, .ref 5, .int 0, .int 0, .int 0, .int 0]), .inl (1, 40, .inl fun _ => 0), .inl (1, 4, .inl fun _ => 0), .inr (2, [.ref 7, .null, .null, .null, .int 0, .int 0, .int 0]), .inr (3, [.int 1, .int 0, .null, .null, .null]), .inr (4, [.null, .int 0, .int 0])], 76)) := by
  obtain ⟨d, rfl⟩ : ∃ e, d = e + 1 := ⟨d - 1, by omega⟩
  refine zm_J_run zm_T 1 (pc' := 1) (lv' := [(0, .ref 8)]) (st' := [.ref 8]) (G' := ([.inl (0, L, .inl xs), .inr (99, []), .inr (0, [.ref 3, .null, .null, .null, .int 0, .int 0, .int 0, .int 0, .int 0]), .inr (1, [.int 0, .int (-1), .ref 4, .ref 5, .int 0, .int 0, .int 0, .int 0]), .inl (1, 40, .inl fun _ => 0), .inl (1, 4, .inl fun _ => 0), .inr (2, [.ref 7, .null, .null, .null, .int 0, .int 0, .int 0]), .inr (3, [.int 1, .int 0, .null, .null, .null]), .inr (4, [.null, .int 0, .int 0])], 76)) rfl ?_
  refine zm_J_O (zm_T.1 8 1 _ rfl).1 zc_8_1 (Nat.le_of_ble_eq_true rfl) ?_
  exact zm_J_fin zm_T rfl rfl ⟨rfl, rfl⟩

set_option maxHeartbeats 40000000 in
set_option maxRecDepth 100000 in
/-- java/util/AbstractList.<init> -/
theorem zi_4 {L : Nat} {xs : Nat → Int32} (N : zm_N) (d : Nat) (hd : 2 ≤ d) : zm_J N d 7 0 [(0, .ref 8)] [] ([.inl (0, L, .inl xs), .inr (99, []), .inr (0, [.ref 3, .null, .null, .null, .int 0, .int 0, .int 0, .int 0, .int 0]), .inr (1, [.int 0, .int (-1), .ref 4, .ref 5, .int 0, .int 0, .int 0, .int 0]), .inl (1, 40, .inl fun _ => 0), .inl (1, 4, .inl fun _ => 0), .inr (2, [.ref 7, .null, .null, .null, .int 0, .int 0, .int 0]), .inr (3, [.int 1, .int 0, .null, .null, .null]), .inr (4, [.null, .int 0, .int 0])], 76) (fun z G => z = .inl none ∧ G = ([.inl (0, L, .inl xs), .inr (99, []), .inr (0, [.ref 3, .null, .null, .null, .int 0, .int 0, .int 0, .int 0, .int 0]), .inr (1, [.int 0, .int (-1), .ref 4, .ref 5, .int 0, .int 0, .int 0, .int 0]), .inl (1, 40, .inl fun _ => 0), .inl (1, 4, .inl fun _ => 0), .inr (2, [.ref 7, .null, .null, .null, .int 0, .int 0, .int 0]), .inr (3, [.int 1, .int 0, .null, .null, .null]), .inr (4, [.null, .int 0, .int 0])], 76)) := by
  obtain ⟨d, rfl⟩ : ∃ e, d = e + 1 := ⟨d - 1, by omega⟩
  refine zm_J_run zm_T 1 (pc' := 1) (lv' := [(0, .ref 8)]) (st' := [.ref 8]) (G' := ([.inl (0, L, .inl xs), .inr (99, []), .inr (0, [.ref 3, .null, .null, .null, .int 0, .int 0, .int 0, .int 0, .int 0]), .inr (1, [.int 0, .int (-1), .ref 4, .ref 5, .int 0, .int 0, .int 0, .int 0]), .inl (1, 40, .inl fun _ => 0), .inl (1, 4, .inl fun _ => 0), .inr (2, [.ref 7, .null, .null, .null, .int 0, .int 0, .int 0]), .inr (3, [.int 1, .int 0, .null, .null, .null]), .inr (4, [.null, .int 0, .int 0])], 76)) rfl ?_
  refine zm_J_I (a := 8) (av := []) (rest := []) (Q1 := fun z G => z = .inl none ∧ G = ([.inl (0, L, .inl xs), .inr (99, []), .inr (0, [.ref 3, .null, .null, .null, .int 0, .int 0, .int 0, .int 0, .int 0]), .inr (1, [.int 0, .int (-1), .ref 4, .ref 5, .int 0, .int 0, .int 0, .int 0]), .inl (1, 40, .inl fun _ => 0), .inl (1, 4, .inl fun _ => 0), .inr (2, [.ref 7, .null, .null, .null, .int 0, .int 0, .int 0]), .inr (3, [.int 1, .int 0, .null, .null, .null]), .inr (4, [.null, .int 0, .int 0])], 76)) (zm_T.1 7 1 _ rfl).1 zc_7_1 (Nat.le_of_ble_eq_true rfl) (Nat.le_of_ble_eq_true rfl) (Nat.le_of_ble_eq_true rfl) (Nat.le_of_ble_eq_true rfl) (zi_3 N _ (by omega)) ?_ ?_
  rotate_left
  · intro x G' h; exact nomatch h.1
  intro v G' h
  obtain ⟨h1, rfl⟩ := h
  cases Sum.inl.inj h1
  show zm_J N _ 7 4 [(0, .ref 8)] [] ([.inl (0, L, .inl xs), .inr (99, []), .inr (0, [.ref 3, .null, .null, .null, .int 0, .int 0, .int 0, .int 0, .int 0]), .inr (1, [.int 0, .int (-1), .ref 4, .ref 5, .int 0, .int 0, .int 0, .int 0]), .inl (1, 40, .inl fun _ => 0), .inl (1, 4, .inl fun _ => 0), .inr (2, [.ref 7, .null, .null, .null, .int 0, .int 0, .int 0]), .inr (3, [.int 1, .int 0, .null, .null, .null]), .inr (4, [.null, .int 0, .int 0])], 76) _
  refine zm_J_run zm_T 3 (pc' := 9) (lv' := [(0, .ref 8)]) (st' := []) (G' := ([.inl (0, L, .inl xs), .inr (99, []), .inr (0, [.ref 3, .null, .null, .null, .int 0, .int 0, .int 0, .int 0, .int 0]), .inr (1, [.int 0, .int (-1), .ref 4, .ref 5, .int 0, .int 0, .int 0, .int 0]), .inl (1, 40, .inl fun _ => 0), .inl (1, 4, .inl fun _ => 0), .inr (2, [.ref 7, .null, .null, .null, .int 0, .int 0, .int 0]), .inr (3, [.int 1, .int 0, .null, .null, .null]), .inr (4, [.null, .int 0, .int 0])], 76)) rfl ?_
  exact zm_J_fin zm_T rfl rfl ⟨rfl, rfl⟩

set_option maxHeartbeats 40000000 in
set_option maxRecDepth 100000 in
/-- java/util/ArrayList.<init> -/
theorem zi_5 {L : Nat} {xs : Nat → Int32} (N : zm_N) (d : Nat) (hd : 3 ≤ d) : zm_J N d 6 0 [(0, .ref 8)] [] ([.inl (0, L, .inl xs), .inr (99, []), .inr (0, [.ref 3, .null, .null, .null, .int 0, .int 0, .int 0, .int 0, .int 0]), .inr (1, [.int 0, .int (-1), .ref 4, .ref 5, .int 0, .int 0, .int 0, .int 0]), .inl (1, 40, .inl fun _ => 0), .inl (1, 4, .inl fun _ => 0), .inr (2, [.ref 7, .null, .null, .null, .int 0, .int 0, .int 0]), .inr (3, [.int 1, .int 0, .null, .null, .null]), .inr (4, [.null, .int 0, .int 0])], 76) (fun z G => z = .inl none ∧ G = ([.inl (0, L, .inl xs), .inr (99, []), .inr (0, [.ref 3, .null, .null, .null, .int 0, .int 0, .int 0, .int 0, .int 0]), .inr (1, [.int 0, .int (-1), .ref 4, .ref 5, .int 0, .int 0, .int 0, .int 0]), .inl (1, 40, .inl fun _ => 0), .inl (1, 4, .inl fun _ => 0), .inr (2, [.ref 7, .null, .null, .null, .int 0, .int 0, .int 0]), .inr (3, [.int 1, .int 0, .null, .null, .null]), .inr (4, [.ref 1, .int 0, .int 0])], 76)) := by
  obtain ⟨d, rfl⟩ : ∃ e, d = e + 1 := ⟨d - 1, by omega⟩
  refine zm_J_run zm_T 1 (pc' := 1) (lv' := [(0, .ref 8)]) (st' := [.ref 8]) (G' := ([.inl (0, L, .inl xs), .inr (99, []), .inr (0, [.ref 3, .null, .null, .null, .int 0, .int 0, .int 0, .int 0, .int 0]), .inr (1, [.int 0, .int (-1), .ref 4, .ref 5, .int 0, .int 0, .int 0, .int 0]), .inl (1, 40, .inl fun _ => 0), .inl (1, 4, .inl fun _ => 0), .inr (2, [.ref 7, .null, .null, .null, .int 0, .int 0, .int 0]), .inr (3, [.int 1, .int 0, .null, .null, .null]), .inr (4, [.null, .int 0, .int 0])], 76)) rfl ?_
  refine zm_J_I (a := 8) (av := []) (rest := []) (Q1 := fun z G => z = .inl none ∧ G = ([.inl (0, L, .inl xs), .inr (99, []), .inr (0, [.ref 3, .null, .null, .null, .int 0, .int 0, .int 0, .int 0, .int 0]), .inr (1, [.int 0, .int (-1), .ref 4, .ref 5, .int 0, .int 0, .int 0, .int 0]), .inl (1, 40, .inl fun _ => 0), .inl (1, 4, .inl fun _ => 0), .inr (2, [.ref 7, .null, .null, .null, .int 0, .int 0, .int 0]), .inr (3, [.int 1, .int 0, .null, .null, .null]), .inr (4, [.null, .int 0, .int 0])], 76)) (zm_T.1 6 1 _ rfl).1 zc_6_1 (Nat.le_of_ble_eq_true rfl) (Nat.le_of_ble_eq_true rfl) (Nat.le_of_ble_eq_true rfl) (Nat.le_of_ble_eq_true rfl) (zi_4 N _ (by omega)) ?_ ?_
  rotate_left
  · intro x G' h; exact nomatch h.1
  intro v G' h
  obtain ⟨h1, rfl⟩ := h
  cases Sum.inl.inj h1
  show zm_J N _ 6 4 [(0, .ref 8)] [] ([.inl (0, L, .inl xs), .inr (99, []), .inr (0, [.ref 3, .null, .null, .null, .int 0, .int 0, .int 0, .int 0, .int 0]), .inr (1, [.int 0, .int (-1), .ref 4, .ref 5, .int 0, .int 0, .int 0, .int 0]), .inl (1, 40, .inl fun _ => 0), .inl (1, 4, .inl fun _ => 0), .inr (2, [.ref 7, .null, .null, .null, .int 0, .int 0, .int 0]), .inr (3, [.int 1, .int 0, .null, .null, .null]), .inr (4, [.null, .int 0, .int 0])], 76) _
  refine zm_J_run zm_T 3 (pc' := 11) (lv' := [(0, .ref 8)]) (st' := []) (G' := ([.inl (0, L, .inl xs), .inr (99, []), .inr (0, [.ref 3, .null, .null, .null, .int 0, .int 0, .int 0, .int 0, .int 0]), .inr (1, [.int 0, .int (-1), .ref 4, .ref 5, .int 0, .int 0, .int 0, .int 0]), .inl (1, 40, .inl fun _ => 0), .inl (1, 4, .inl fun _ => 0), .inr (2, [.ref 7, .null, .null, .null, .int 0, .int 0, .int 0]), .inr (3, [.int 1, .int 0, .null, .null, .null]), .inr (4, [.ref 1, .int 0, .int 0])], 76)) rfl ?_
  exact zm_J_fin zm_T rfl rfl ⟨rfl, rfl⟩

set_option maxHeartbeats 40000000 in
set_option maxRecDepth 100000 in
/-- java/util/AbstractCollection.<init> -/
theorem zi_6 {L : Nat} {xs : Nat → Int32} (N : zm_N) (d : Nat) (hd : 1 ≤ d) : zm_J N d 8 0 [(0, .ref 9)] [] ([.inl (0, L, .inl xs), .inr (99, []), .inr (0, [.ref 3, .null, .null, .null, .int 0, .int 0, .int 0, .int 0, .int 0]), .inr (1, [.int 0, .int (-1), .ref 4, .ref 5, .int 0, .int 0, .int 0, .int 0]), .inl (1, 40, .inl fun _ => 0), .inl (1, 4, .inl fun _ => 0), .inr (2, [.ref 7, .ref 8, .null, .null, .int 0, .int 0, .int 0]), .inr (3, [.int 1, .int 0, .null, .null, .null]), .inr (4, [.ref 1, .int 0, .int 0]), .inr (4, [.null, .int 0, .int 0])], 79) (fun z G => z = .inl none ∧ G = ([.inl (0, L, .inl xs), .inr (99, []), .inr (0, [.ref 3, .null, .null, .null, .int 0, .int 0, .int 0, .int 0, .int 0]), .inr (1, [.int 0, .int (-1), .ref 4, .ref 5, .int 0, .int 0, .int 0, .int 0]), .inl (1, 40, .inl fun _ => 0), .inl (1, 4, .inl fun _ => 0), .inr (2, [.ref 7, .ref 8, .null, .null, .int 0, .int 0, .int 0]), .inr (3, [.int 1, .int 0, .null, .null, .null]), .inr (4, [.ref 1, .int 0, .int 0]), .inr (4, [.null, .int 0, .int 0])], 79)) := by
  obtain ⟨d, rfl⟩ : ∃ e, d = e + 1 := ⟨d - 1, by omega⟩
  refine zm_J_run zm_T 1 (pc' := 1) (lv' := [(0, .ref 9)]) (st' := [.ref 9]) (G' := ([.inl (0, L, .inl xs), .inr (99, []), .inr (0, [.ref 3, .null, .null, .null, .int 0, .int 0, .int 0, .int 0, .int 0]), .inr (1, [.int 0, .int (-1), .ref 4, .ref 5, .int 0, .int 0, .int 0, .int 0]), .inl (1, 40, .inl fun _ => 0), .inl (1, 4, .inl fun _ => 0), .inr (2, [.ref 7, .ref 8, .null, .null, .int 0, .int 0, .int 0]), .inr (3, [.int 1, .int 0, .null, .null, .null]), .inr (4, [.ref 1, .int 0, .int 0]), .inr (4, [.null, .int 0, .int 0])], 79)) rfl ?_
  refine zm_J_O (zm_T.1 8 1 _ rfl).1 zc_8_1 (Nat.le_of_ble_eq_true rfl) ?_
  exact zm_J_fin zm_T rfl rfl ⟨rfl, rfl⟩

set_option maxHeartbeats 40000000 in
set_option maxRecDepth 100000 in
/-- java/util/AbstractList.<init> -/
theorem zi_7 {L : Nat} {xs : Nat → Int32} (N : zm_N) (d : Nat) (hd : 2 ≤ d) : zm_J N d 7 0 [(0, .ref 9)] [] ([.inl (0, L, .inl xs), .inr (99, []), .inr (0, [.ref 3, .null, .null, .null, .int 0, .int 0, .int 0, .int 0, .int 0]), .inr (1, [.int 0, .int (-1), .ref 4, .ref 5, .int 0, .int 0, .int 0, .int 0]), .inl (1, 40, .inl fun _ => 0), .inl (1, 4, .inl fun _ => 0), .inr (2, [.ref 7, .ref 8, .null, .null, .int 0, .int 0, .int 0]), .inr (3, [.int 1, .int 0, .null, .null, .null]), .inr (4, [.ref 1, .int 0, .int 0]), .inr (4, [.null, .int 0, .int 0])], 79) (fun z G => z = .inl none ∧ G = ([.inl (0, L, .inl xs), .inr (99, []), .inr (0, [.ref 3, .null, .null, .null, .int 0, .int 0, .int 0, .int 0, .int 0]), .inr (1, [.int 0, .int (-1), .ref 4, .ref 5, .int 0, .int 0, .int 0, .int 0]), .inl (1, 40, .inl fun _ => 0), .inl (1, 4, .inl fun _ => 0), .inr (2, [.ref 7, .ref 8, .null, .null, .int 0, .int 0, .int 0]), .inr (3, [.int 1, .int 0, .null, .null, .null]), .inr (4, [.ref 1, .int 0, .int 0]), .inr (4, [.null, .int 0, .int 0])], 79)) := by
  obtain ⟨d, rfl⟩ : ∃ e, d = e + 1 := ⟨d - 1, by omega⟩
  refine zm_J_run zm_T 1 (pc' := 1) (lv' := [(0, .ref 9)]) (st' := [.ref 9]) (G' := ([.inl (0, L, .inl xs), .inr (99, []), .inr (0, [.ref 3, .null, .null, .null, .int 0, .int 0, .int 0, .int 0, .int 0]), .inr (1, [.int 0, .int (-1), .ref 4, .ref 5, .int 0, .int 0, .int 0, .int 0]), .inl (1, 40, .inl fun _ => 0), .inl (1, 4, .inl fun _ => 0), .inr (2, [.ref 7, .ref 8, .null, .null, .int 0, .int 0, .int 0]), .inr (3, [.int 1, .int 0, .null, .null, .null]), .inr (4, [.ref 1, .int 0, .int 0]), .inr (4, [.null, .int 0, .int 0])], 79)) rfl ?_
  refine zm_J_I (a := 9) (av := []) (rest := []) (Q1 := fun z G => z = .inl none ∧ G = ([.inl (0, L, .inl xs), .inr (99, []), .inr (0, [.ref 3, .null, .null, .null, .int 0, .int 0, .int 0, .int 0, .int 0]), .inr (1, [.int 0, .int (-1), .ref 4, .ref 5, .int 0, .int 0, .int 0, .int 0]), .inl (1, 40, .inl fun _ => 0), .inl (1, 4, .inl fun _ => 0), .inr (2, [.ref 7, .ref 8, .null, .null, .int 0, .int 0, .int 0]), .inr (3, [.int 1, .int 0, .null, .null, .null]), .inr (4, [.ref 1, .int 0, .int 0]), .inr (4, [.null, .int 0, .int 0])], 79)) (zm_T.1 7 1 _ rfl).1 zc_7_1 (Nat.le_of_ble_eq_true rfl) (Nat.le_of_ble_eq_true rfl) (Nat.le_of_ble_eq_true rfl) (Nat.le_of_ble_eq_true rfl) (zi_6 N _ (by omega)) ?_ ?_
  rotate_left
  · intro x G' h; exact nomatch h.1
  intro v G' h
  obtain ⟨h1, rfl⟩ := h
  cases Sum.inl.inj h1
  show zm_J N _ 7 4 [(0, .ref 9)] [] ([.inl (0, L, .inl xs), .inr (99, []), .inr (0, [.ref 3, .null, .null, .null, .int 0, .int 0, .int 0, .int 0, .int 0]), .inr (1, [.int 0, .int (-1), .ref 4, .ref 5, .int 0, .int 0, .int 0, .int 0]), .inl (1, 40, .inl fun _ => 0), .inl (1, 4, .inl fun _ => 0), .inr (2, [.ref 7, .ref 8, .null, .null, .int 0, .int 0, .int 0]), .inr (3, [.int 1, .int 0, .null, .null, .null]), .inr (4, [.ref 1, .int 0, .int 0]), .inr (4, [.null, .int 0, .int 0])], 79) _
  refine zm_J_run zm_T 3 (pc' := 9) (lv' := [(0, .ref 9)]) (st' := []) (G' := ([.inl (0, L, .inl xs), .inr (99, []), .inr (0, [.ref 3, .null, .null, .null, .int 0, .int 0, .int 0, .int 0, .int 0]), .inr (1, [.int 0, .int (-1), .ref 4, .ref 5, .int 0, .int 0, .int 0, .int 0]), .inl (1, 40, .inl fun _ => 0), .inl (1, 4, .inl fun _ => 0), .inr (2, [.ref 7, .ref 8, .null, .null, .int 0, .int 0, .int 0]), .inr (3, [.int 1, .int 0, .null, .null, .null]), .inr (4, [.ref 1, .int 0, .int 0]), .inr (4, [.null, .int 0, .int 0])], 79)) rfl ?_
  exact zm_J_fin zm_T rfl rfl ⟨rfl, rfl⟩

set_option maxHeartbeats 40000000 in
set_option maxRecDepth 100000 in
/-- java/util/ArrayList.<init> -/
theorem zi_8 {L : Nat} {xs : Nat → Int32} (N : zm_N) (d : Nat) (hd : 3 ≤ d) : zm_J N d 6 0 [(0, .ref 9)] [] ([.inl (0, L, .inl xs), .inr (99, []), .inr (0, [.ref 3, .null, .null, .null, .int 0, .int 0, .int 0, .int 0, .int 0]), .inr (1, [.int 0, .int (-1), .ref 4, .ref 5, .int 0, .int 0, .int 0, .int 0]), .inl (1, 40, .inl fun _ => 0), .inl (1, 4, .inl fun _ => 0), .inr (2, [.ref 7, .ref 8, .null, .null, .int 0, .int 0, .int 0]), .inr (3, [.int 1, .int 0, .null, .null, .null]), .inr (4, [.ref 1, .int 0, .int 0]), .inr (4, [.null, .int 0, .int 0])], 79) (fun z G => z = .inl none ∧ G = ([.inl (0, L, .inl xs), .inr (99, []), .inr (0, [.ref 3, .null, .null, .null, .int 0, .int 0, .int 0, .int 0, .int 0]), .inr (1, [.int 0, .int (-1), .ref 4, .ref 5, .int 0, .int 0, .int 0, .int 0]), .inl (1, 40, .inl fun _ => 0), .inl (1, 4, .inl fun _ => 0), .inr (2, [.ref 7, .ref 8, .null, .null, .int 0, .int 0, .int 0]), .inr (3, [.int 1, .int 0, .null, .null, .null]), .inr (4, [.ref 1, .int 0, .int 0]), .inr (4, [.ref 1, .int 0, .int 0])], 79)) := by
  obtain ⟨d, rfl⟩ : ∃ e, d = e + 1 := ⟨d - 1, by omega⟩
  refine zm_J_run zm_T 1 (pc' := 1) (lv' := [(0, .ref 9)]) (st' := [.ref 9]) (G' := ([.inl (0, L, .inl xs), .inr (99, []), .inr (0, [.ref 3, .null, .null, .null, .int 0, .int 0, .int 0, .int 0, .int 0]), .inr (1, [.int 0, .int (-1), .ref 4, .ref 5, .int 0, .int 0, .int 0, .int 0]), .inl (1, 40, .inl fun _ => 0), .inl (1, 4, .inl fun _ => 0), .inr (2, [.ref 7, .ref 8, .null, .null, .int 0, .int 0, .int 0]), .inr (3, [.int 1, .int 0, .null, .null, .null]), .inr (4, [.ref 1, .int 0, .int 0]), .inr (4, [.null, .int 0, .int 0])], 79)) rfl ?_
  refine zm_J_I (a := 9) (av := []) (rest := []) (Q1 := fun z G => z = .inl none ∧ G = ([.inl (0, L, .inl xs), .inr (99, []), .inr (0, [.ref 3, .null, .null, .null, .int 0, .int 0, .int 0, .int 0, .int 0]), .inr (1, [.int 0, .int (-1), .ref 4, .ref 5, .int 0, .int 0, .int 0, .int 0]), .inl (1, 40, .inl fun _ => 0), .inl (1, 4, .inl fun _ => 0), .inr (2, [.ref 7, .ref 8, .null, .null, .int 0, .int 0, .int 0]), .inr (3, [.int 1, .int 0, .null, .null, .null]), .inr (4, [.ref 1, .int 0, .int 0]), .inr (4, [.null, .int 0, .int 0])], 79)) (zm_T.1 6 1 _ rfl).1 zc_6_1 (Nat.le_of_ble_eq_true rfl) (Nat.le_of_ble_eq_true rfl) (Nat.le_of_ble_eq_true rfl) (Nat.le_of_ble_eq_true rfl) (zi_7 N _ (by omega)) ?_ ?_
  rotate_left
  · intro x G' h; exact nomatch h.1
  intro v G' h
  obtain ⟨h1, rfl⟩ := h
  cases Sum.inl.inj h1
  show zm_J N _ 6 4 [(0, .ref 9)] [] ([.inl (0, L, .inl xs), .inr (99, []), .inr (0, [.ref 3, .null, .null, .null, .int 0, .int 0, .int 0, .int 0, .int 0]), .inr (1, [.int 0, .int (-1), .ref 4, .ref 5, .int 0, .int 0, .int 0, .int 0]), .inl (1, 40, .inl fun _ => 0), .inl (1, 4, .inl fun _ => 0), .inr (2, [.ref 7, .ref 8, .null, .null, .int 0, .int 0, .int 0]), .inr (3, [.int 1, .int 0, .null, .null, .null]), .inr (4, [.ref 1, .int 0, .int 0]), .inr (4, [.null, .int 0, .int 0])], 79) _
  refine zm_J_run zm_T 3 (pc' := 11) (lv' := [(0, .ref 9)]) (st' := []) (G' := ([.inl (0, L, .inl xs), .inr (99, []), .inr (0, [.ref 3, .null, .null, .null, .int 0, .int 0, .int 0, .int 0, .int 0]), .inr (1, [.int 0, .int (-1), .ref 4, .ref 5, .int 0, .int 0, .int 0, .int 0]), .inl (1, 40, .inl fun _ => 0), .inl (1, 4, .inl fun _ => 0), .inr (2, [.ref 7, .ref 8, .null, .null, .int 0, .int 0, .int 0]), .inr (3, [.int 1, .int 0, .null, .null, .null]), .inr (4, [.ref 1, .int 0, .int 0]), .inr (4, [.ref 1, .int 0, .int 0])], 79)) rfl ?_
  exact zm_J_fin zm_T rfl rfl ⟨rfl, rfl⟩

set_option maxHeartbeats 40000000 in
set_option maxRecDepth 100000 in
/-- java/util/AbstractCollection.<init> -/
theorem zi_9 {L : Nat} {xs : Nat → Int32} (N : zm_N) (d : Nat) (hd : 1 ≤ d) : zm_J N d 8 0 [(0, .ref 10)] [] ([.inl (0, L, .inl xs), .inr (99, []), .inr (0, [.ref 3, .null, .null, .null, .int 0, .int 0, .int 0, .int 0, .int 0]), .inr (1, [.int 0, .int (-1), .ref 4, .ref 5, .int 0, .int 0, .int 0, .int 0]), .inl (1, 40, .inl fun _ => 0), .inl (1, 4, .inl fun _ => 0), .inr (2, [.ref 7, .ref 8, .ref 9, .null, .int 0, .int 0, .int 0]), .inr (3, [.int 1, .int 0, .null, .null, .null]), .inr (4, [.ref 1, .int 0, .int 0]), .inr (4, [.ref 1, .int 0, .int 0]), .inr (4, [.null, .int 0, .int 0])], 82) (fun z G => z = .inl none ∧ G = ([.inl (0, L, .inl xs), .inr (99, []), .inr (0, [.ref 3, .null, .null, .null, .int 0, .int 0, .int 0, .int 0, .int 0]), .inr (1, [.int 0, .int (-1), .ref 4, .ref 5, .int 0, .int 0, .int 0, .int 0]), .inl (1, 40, .inl fun _ => 0), .inl (1, 4, .inl fun _ => 0), .inr (2, [.ref 7, .ref 8, .ref 9, .null, .int 0, .int 0, .int 0]), .inr (3, [.int 1, .int 0, .null, .null, .null]), .inr (4, [.ref 1, .int 0, .int 0]), .inr (4, [.ref 1, .int 0, .int 0]), .inr (4, [.null, .int 0, .int 0])], 82)) := by
  obtain ⟨d, rfl⟩ : ∃ e, d = e + 1 := ⟨d - 1, by omega⟩
  refine zm_J_run zm_T 1 (pc' := 1) (lv' := [(0, .ref 10)]) (st' := [.ref 10]) (G' := ([.inl (0, L, .inl xs), .inr (99, []), .inr (0, [.ref 3, .null, .null, .null, .int 0, .int 0, .int 0, .int 0, .int 0]), .inr (1, [.int 0, .int (-1), .ref 4, .ref 5, .int 0, .int 0, .int 0, .int 0]), .inl (1, 40, .inl fun _ => 0), .inl (1, 4, .inl fun _ => 0), .inr (2, [.ref 7, .ref 8, .ref 9, .null, .int 0, .int 0, .int 0]), .inr (3, [.int 1, .int 0, .null, .null, .null]), .inr (4, [.ref 1, .int 0, .int 0]), .inr (4, [.ref 1, .int 0, .int 0]), .inr (4, [.null, .int 0, .int 0])], 82)) rfl ?_
  refine zm_J_O (zm_T.1 8 1 _ rfl).1 zc_8_1 (Nat.le_of_ble_eq_true rfl) ?_
  exact zm_J_fin zm_T rfl rfl ⟨rfl, rfl⟩

set_option maxHeartbeats 40000000 in
set_option maxRecDepth 100000 in
/-- java/util/AbstractList.<init> -/
theorem zi_10 {L : Nat} {xs : Nat → Int32} (N : zm_N) (d : Nat) (hd : 2 ≤ d) : zm_J N d 7 0 [(0, .ref 10)] [] ([.inl (0, L, .inl xs), .inr (99, []), .inr (0, [.ref 3, .null, .null, .null, .int 0, .int 0, .int 0, .int 0, .int 0]), .inr (1, [.int 0, .int (-1), .ref 4, .ref 5, .int 0, .int 0, .int 0, .int 0]), .inl (1, 40, .inl fun _ => 0), .inl (1, 4, .inl fun _ => 0), .inr (2, [.ref 7, .ref 8, .ref 9, .null, .int 0, .int 0, .int 0]), .inr (3, [.int 1, .int 0, .null, .null, .null]), .inr (4, [.ref 1, .int 0, .int 0]), .inr (4, [.ref 1, .int 0, .int 0]), .inr (4, [.null, .int 0, .int 0])], 82) (fun z G => z = .inl none ∧ G = ([.inl (0, L, .inl xs), .inr (99, []), .inr (0, [.ref 3, .null, .null, .null, .int 0, .int 0, .int 0, .int 0, .int 0]), .inr (1, [.int 0, .int (-1), .ref 4, .ref 5, .int 0, .int 0, .int 0, .int 0]), .inl (1, 40, .inl fun _ => 0), .inl (1, 4, .inl fun _ => 0), .inr (2, [.ref 7, .ref 8, .ref 9, .null, .int 0, .int 0, .int 0]), .inr (3, [.int 1, .int 0, .null, .null, .null]), .inr (4, [.ref 1, .int 0, .int 0]), .inr (4, [.ref 1, .int 0, .int 0]), .inr (4, [.null, .int 0, .int 0])], 82)) := by
  obtain ⟨d, rfl⟩ : ∃ e, d = e + 1 := ⟨d - 1, by omega⟩
  refine zm_J_run zm_T 1 (pc' := 1) (lv' := [(0, .ref 10)]) (st' := [.ref 10]) (G' := ([.inl (0, L, .inl xs), .inr (99, []), .inr (0, [.ref 3, .null, .null, .null, .int 0, .int 0, .int 0, .int 0, .int 0]), .inr (1, [.int 0, .int (-1), .ref 4, .ref 5, .int 0, .int 0, .int 0, .int 0]), .inl (1, 40, .inl fun _ => 0), .inl (1, 4, .inl fun _ => 0), .inr (2, [.ref 7, .ref 8, .ref 9, .null, .int 0, .int 0, .int 0]), .inr (3, [.int 1, .int 0, .null, .null, .null]), .inr (4, [.ref 1, .int 0, .int 0]), .inr (4, [.ref 1, .int 0, .int 0]), .inr (4, [.null, .int 0, .int 0])], 82)) rfl ?_
  refine zm_J_I (a := 10) (av := []) (rest := []) (Q1 := fun z G => z = .inl none ∧ G = ([.inl (0, L, .inl xs), .inr (99, []), .inr (0, [.ref 3, .null, .null, .null, .int 0, .int 0, .int 0, .int 0, .int 0]), .inr (1, [.int 0, .int (-1), .ref 4, .ref 5, .int 0, .int 0, .int 0, .int 0]), .inl (1, 40, .inl fun _ => 0), .inl (1, 4, .inl fun _ => 0), .inr (2, [.ref 7, .ref 8, .ref 9, .null, .int 0, .int 0, .int 0]), .inr (3, [.int 1, .int 0, .null, .null, .null]), .inr (4, [.ref 1, .int 0, .int 0]), .inr (4, [.ref 1, .int 0, .int 0]), .inr (4, [.null, .int 0, .int 0])], 82)) (zm_T.1 7 1 _ rfl).1 zc_7_1 (Nat.le_of_ble_eq_true rfl) (Nat.le_of_ble_eq_true rfl) (Nat.le_of_ble_eq_true rfl) (Nat.le_of_ble_eq_true rfl) (zi_9 N _ (by omega)) ?_ ?_
  rotate_left
  · intro x G' h; exact nomatch h.1
  intro v G' h
  obtain ⟨h1, rfl⟩ := h
  cases Sum.inl.inj h1
  show zm_J N _ 7 4 [(0, .ref 10)] [] ([.inl (0, L, .inl xs), .inr (99, []), .inr (0, [.ref 3, .null, .null, .null, .int 0, .int 0, .int 0, .int 0, .int 0]), .inr (1, [.int 0, .int (-1), .ref 4, .ref 5, .int 0, .int 0, .int 0, .int 0]), .inl (1, 40, .inl fun _ => 0), .inl (1, 4, .inl fun _ => 0), .inr (2, [.ref 7, .ref 8, .ref 9, .null, .int 0, .int 0, .int 0]), .inr (3, [.int 1, .int 0, .null, .null, .null]), .inr (4, [.ref 1, .int 0, .int 0]), .inr (4, [.ref 1, .int 0, .int 0]), .inr (4, [.null, .int 0, .int 0])], 82) _
  refine zm_J_run zm_T 3 (pc' := 9) (lv' := [(0, .ref 10)]) (st' := []) (G' := ([.inl (0, L, .inl xs), .inr (99, []), .inr (0, [.ref 3, .null, .null, .null, .int 0, .int 0, .int 0, .int 0, .int 0]), .inr (1, [.int 0, .int (-1), .ref 4, .ref 5, .int 0, .int 0, .int 0, .int 0]), .inl (1, 40, .inl fun _ => 0), .inl (1, 4, .inl fun _ => 0), .inr (2, [.ref 7, .ref 8, .ref 9, .null, .int 0, .int 0, .int 0]), .inr (3, [.int 1, .int 0, .null, .null, .null]), .inr (4, [.ref 1, .int 0, .int 0]), .inr (4, [.ref 1, .int 0, .int 0]), .inr (4, [.null, .int 0, .int 0])], 82)) rfl ?_
  exact zm_J_fin zm_T rfl rfl ⟨rfl, rfl⟩

set_option maxHeartbeats 40000000 in
set_option maxRecDepth 100000 in
/-- java/util/ArrayList.<init> -/
theorem zi_11 {L : Nat} {xs : Nat → Int32} (N : zm_N) (d : Nat) (hd : 3 ≤ d) : zm_J N d 6 0 [(0, .ref 10)] [] ([.inl (0, L, .inl xs), .inr (99, []), .inr (0, [.ref 3, .null, .null, .null, .int 0, .int 0, .int 0, .int 0, .int 0]), .inr (1, [.int 0, .int (-1), .ref 4, .ref 5, .int 0, .int 0, .int 0, .int 0]), .inl (1, 40, .inl fun _ => 0), .inl (1, 4, .inl fun _ => 0), .inr (2, [.ref 7, .ref 8, .ref 9, .null, .int 0, .int 0, .int 0]), .inr (3, [.int 1, .int 0, .null, .null, .null]), .inr (4, [.ref 1, .int 0, .int 0]), .inr (4, [.ref 1, .int 0, .int 0]), .inr (4, [.null, .int 0, .int 0])], 82) (fun z G => z = .inl none ∧ G = ([.inl (0, L, .inl xs), .inr (99, []), .inr (0, [.ref 3, .null, .null, .null, .int 0, .int 0, .int 0, .int 0, .int 0]), .inr (1, [.int 0, .int (-1), .ref 4, .ref 5, .int 0, .int 0, .int 0, .int 0]), .inl (1, 40, .inl fun _ => 0), .inl (1, 4, .inl fun _ => 0), .inr (2, [.ref 7, .ref 8, .ref 9, .null, .int 0, .int 0, .int 0]), .inr (3, [.int 1, .int 0, .null, .null, .null]), .inr (4, [.ref 1, .int 0, .int 0]), .inr (4, [.ref 1, .int 0, .int 0]), .inr (4, [.ref 1, .int 0, .int 0])], 82)) := by
  obtain ⟨d, rfl⟩ : ∃ e, d = e + 1 := ⟨d - 1, by omega⟩
  refine zm_J_run zm_T 1 (pc' := 1) (lv' := [(0, .ref 10)]) (st' := [.ref 10]) (G' := ([.inl (0, L, .inl xs), .inr (99, []), .inr (0, [.ref 3, .null, .null, .null, .int 0, .int 0, .int 0, .int 0, .int 0]), .inr (1, [.int 0, .int (-1), .ref 4, .ref 5, .int 0, .int 0, .int 0, .int 0]), .inl (1, 40, .inl fun _ => 0), .inl (1, 4, .inl fun _ => 0), .inr (2, [.ref 7, .ref 8, .ref 9, .null, .int 0, .int 0, .int 0]), .inr (3, [.int 1, .int 0, .null, .null, .null]), .inr (4, [.ref 1, .int 0, .int 0]), .inr (4, [.ref 1, .int 0, .int 0]), .inr (4, [.null, .int 0, .int 0])], 82)) rfl ?_
  refine zm_J_I (a := 10) (av := []) (rest := []) (Q1 := fun z G => z = .inl none ∧ G = ([.inl (0, L, .inl xs), .inr (99, []), .inr (0, [.ref 3, .null, .null, .null, .int 0, .int 0, .int 0, .int 0, .int 0]), .inr (1, [.int 0, .int (-1), .ref 4, .ref 5, .int 0, .int 0, .int 0, .int 0]), .inl (1, 40, .inl fun _ => 0), .inl (1, 4, .inl fun _ => 0), .inr (2, [.ref 7, .ref 8, .ref 9, .null, .int 0, .int 0, .int 0]), .inr (3, [.int 1, .int 0, .null, .null, .null]), .inr (4, [.ref 1, .int 0, .int 0]), .inr (4, [.ref 1, .int 0, .int 0]), .inr (4, [.null, .int 0, .int 0])], 82)) (zm_T.1 6 1 _ rfl).1 zc_6_1 (Nat.le_of_ble_eq_true rfl) (Nat.le_of_ble_eq_true rfl) (Nat.le_of_ble_eq_true rfl) (Nat.le_of_ble_eq_true rfl) (zi_10 N _ (by omega)) ?_ ?_
  rotate_left
  · intro x G' h; exact nomatch h.1
  intro v G' h
  obtain ⟨h1, rfl⟩ := h
  cases Sum.inl.inj h1
  show zm_J N _ 6 4 [(0, .ref 10)] [] ([.inl (0, L, .inl xs), .inr (99, []), .inr (0, [.ref 3, .null, .null, .null, .int 0, .int 0, .int 0, .int 0, .int 0]), .inr (1, [.int 0, .int (-1), .ref 4, .ref 5, .int 0, .int 0, .int 0, .int 0]), .inl (1, 40, .inl fun _ => 0), .inl (1, 4, .inl fun _ => 0), .inr (2, [.ref 7, .ref 8, .ref 9, .null, .int 0, .int 0, .int 0]), .inr (3, [.int 1, .int 0, .null, .null, .null]), .inr (4, [.ref 1, .int 0, .int 0]), .inr (4, [.ref 1, .int 0, .int 0]), .inr (4, [.null, .int 0, .int 0])], 82) _
  refine zm_J_run zm_T 3 (pc' := 11) (lv' := [(0, .ref 10)]) (st' := []) (G' := ([.inl (0, L, .inl xs), .inr (99, []), .inr (0, [.ref 3, .null, .null, .null, .int 0, .int 0, .int 0, .int 0, .int 0]), .inr (1, [.int 0, .int (-1), .ref 4, .ref 5, .int 0, .int 0, .int 0, .int 0]), .inl (1, 40, .inl fun _ => 0), .inl (1, 4, .inl fun _ => 0), .inr (2, [.ref 7, .ref 8, .ref 9, .null, .int 0, .int 0, .int 0]), .inr (3, [.int 1, .int 0, .null, .null, .null]), .inr (4, [.ref 1, .int 0, .int 0]), .inr (4, [.ref 1, .int 0, .int 0]), .inr (4, [.ref 1, .int 0, .int 0])], 82)) rfl ?_
  exact zm_J_fin zm_T rfl rfl ⟨rfl, rfl⟩

set_option maxHeartbeats 40000000 in
set_option maxRecDepth 100000 in
/-- NeedMachine$Store.<init> -/
theorem zi_12 {L : Nat} {xs : Nat → Int32} (N : zm_N) (d : Nat) (hd : 4 ≤ d) : zm_J N d 4 0 [(0, .ref 6)] [] ([.inl (0, L, .inl xs), .inr (99, []), .inr (0, [.ref 3, .null, .null, .null, .int 0, .int 0, .int 0, .int 0, .int 0]), .inr (1, [.int 0, .int (-1), .ref 4, .ref 5, .int 0, .int 0, .int 0, .int 0]), .inl (1, 40, .inl fun _ => 0), .inl (1, 4, .inl fun _ => 0), .inr (2, [.null, .null, .null, .null, .int 0, .int 0, .int 0])], 68) (fun z G => z = .inl none ∧ G = ([.inl (0, L, .inl xs), .inr (99, []), .inr (0, [.ref 3, .null, .null, .null, .int 0, .int 0, .int 0, .int 0, .int 0]), .inr (1, [.int 0, .int (-1), .ref 4, .ref 5, .int 0, .int 0, .int 0, .int 0]), .inl (1, 40, .inl fun _ => 0), .inl (1, 4, .inl fun _ => 0), .inr (2, [.ref 7, .ref 8, .ref 9, .ref 10, .int 0, .int 0, .int 0]), .inr (3, [.int 1, .int 0, .null, .null, .null]), .inr (4, [.ref 1, .int 0, .int 0]), .inr (4, [.ref 1, .int 0, .int 0]), .inr (4, [.ref 1, .int 0, .int 0])], 82)) := by
  obtain ⟨d, rfl⟩ : ∃ e, d = e + 1 := ⟨d - 1, by omega⟩
  refine zm_J_run zm_T 1 (pc' := 1) (lv' := [(0, .ref 6)]) (st' := [.ref 6]) (G' := ([.inl (0, L, .inl xs), .inr (99, []), .inr (0, [.ref 3, .null, .null, .null, .int 0, .int 0, .int 0, .int 0, .int 0]), .inr (1, [.int 0, .int (-1), .ref 4, .ref 5, .int 0, .int 0, .int 0, .int 0]), .inl (1, 40, .inl fun _ => 0), .inl (1, 4, .inl fun _ => 0), .inr (2, [.null, .null, .null, .null, .int 0, .int 0, .int 0])], 68)) rfl ?_
  refine zm_J_O (zm_T.1 4 1 _ rfl).1 zc_4_1 (Nat.le_of_ble_eq_true rfl) ?_
  refine zm_J_run zm_T 3 (pc' := 9) (lv' := [(0, .ref 6)]) (st' := [.ref 7, .ref 7, .ref 6]) (G' := ([.inl (0, L, .inl xs), .inr (99, []), .inr (0, [.ref 3, .null, .null, .null, .int 0, .int 0, .int 0, .int 0, .int 0]), .inr (1, [.int 0, .int (-1), .ref 4, .ref 5, .int 0, .int 0, .int 0, .int 0]), .inl (1, 40, .inl fun _ => 0), .inl (1, 4, .inl fun _ => 0), .inr (2, [.null, .null, .null, .null, .int 0, .int 0, .int 0]), .inr (3, [.int 0, .int 0, .null, .null, .null])], 73)) rfl ?_
  refine zm_J_I (a := 7) (av := []) (rest := [.ref 7, .ref 6]) (Q1 := fun z G => z = .inl none ∧ G = ([.inl (0, L, .inl xs), .inr (99, []), .inr (0, [.ref 3, .null, .null, .null, .int 0, .int 0, .int 0, .int 0, .int 0]), .inr (1, [.int 0, .int (-1), .ref 4, .ref 5, .int 0, .int 0, .int 0, .int 0]), .inl (1, 40, .inl fun _ => 0), .inl (1, 4, .inl fun _ => 0), .inr (2, [.null, .null, .null, .null, .int 0, .int 0, .int 0]), .inr (3, [.int 0, .int 0, .null, .null, .null])], 73)) (zm_T.1 4 9 _ rfl).1 zc_4_9 (Nat.le_of_ble_eq_true rfl) (Nat.le_of_ble_eq_true rfl) (Nat.le_of_ble_eq_true rfl) (Nat.le_of_ble_eq_true rfl) (zi_2 N _ (by omega)) ?_ ?_
  rotate_left
  · intro x G' h; exact nomatch h.1
  intro v G' h
  obtain ⟨h1, rfl⟩ := h
  cases Sum.inl.inj h1
  show zm_J N _ 4 12 [(0, .ref 6)] [.ref 7, .ref 6] ([.inl (0, L, .inl xs), .inr (99, []), .inr (0, [.ref 3, .null, .null, .null, .int 0, .int 0, .int 0, .int 0, .int 0]), .inr (1, [.int 0, .int (-1), .ref 4, .ref 5, .int 0, .int 0, .int 0, .int 0]), .inl (1, 40, .inl fun _ => 0), .inl (1, 4, .inl fun _ => 0), .inr (2, [.null, .null, .null, .null, .int 0, .int 0, .int 0]), .inr (3, [.int 0, .int 0, .null, .null, .null])], 73) _
  refine zm_J_run zm_T 8 (pc' := 28) (lv' := [(0, .ref 6)]) (st' := [.ref 8, .ref 8, .ref 6]) (G' := ([.inl (0, L, .inl xs), .inr (99, []), .inr (0, [.ref 3, .null, .null, .null, .int 0, .int 0, .int 0, .int 0, .int 0]), .inr (1, [.int 0, .int (-1), .ref 4, .ref 5, .int 0, .int 0, .int 0, .int 0]), .inl (1, 40, .inl fun _ => 0), .inl (1, 4, .inl fun _ => 0), .inr (2, [.ref 7, .null, .null, .null, .int 0, .int 0, .int 0]), .inr (3, [.int 1, .int 0, .null, .null, .null]), .inr (4, [.null, .int 0, .int 0])], 76)) rfl ?_
  refine zm_J_I (a := 8) (av := []) (rest := [.ref 8, .ref 6]) (Q1 := fun z G => z = .inl none ∧ G = ([.inl (0, L, .inl xs), .inr (99, []), .inr (0, [.ref 3, .null, .null, .null, .int 0, .int 0, .int 0, .int 0, .int 0]), .inr (1, [.int 0, .int (-1), .ref 4, .ref 5, .int 0, .int 0, .int 0, .int 0]), .inl (1, 40, .inl fun _ => 0), .inl (1, 4, .inl fun _ => 0), .inr (2, [.ref 7, .null, .null, .null, .int 0, .int 0, .int 0]), .inr (3, [.int 1, .int 0, .null, .null, .null]), .inr (4, [.ref 1, .int 0, .int 0])], 76)) (zm_T.1 4 28 _ rfl).1 zc_4_28 (Nat.le_of_ble_eq_true rfl) (Nat.le_of_ble_eq_true rfl) (Nat.le_of_ble_eq_true rfl) (Nat.le_of_ble_eq_true rfl) (zi_5 N _ (by omega)) ?_ ?_
  rotate_left
  · intro x G' h; exact nomatch h.1
  intro v G' h
  obtain ⟨h1, rfl⟩ := h
  cases Sum.inl.inj h1
  show zm_J N _ 4 31 [(0, .ref 6)] [.ref 8, .ref 6] ([.inl (0, L, .inl xs), .inr (99, []), .inr (0, [.ref 3, .null, .null, .null, .int 0, .int 0, .int 0, .int 0, .int 0]), .inr (1, [.int 0, .int (-1), .ref 4, .ref 5, .int 0, .int 0, .int 0, .int 0]), .inl (1, 40, .inl fun _ => 0), .inl (1, 4, .inl fun _ => 0), .inr (2, [.ref 7, .null, .null, .null, .int 0, .int 0, .int 0]), .inr (3, [.int 1, .int 0, .null, .null, .null]), .inr (4, [.ref 1, .int 0, .int 0])], 76) _
  refine zm_J_run zm_T 4 (pc' := 39) (lv' := [(0, .ref 6)]) (st' := [.ref 9, .ref 9, .ref 6]) (G' := ([.inl (0, L, .inl xs), .inr (99, []), .inr (0, [.ref 3, .null, .null, .null, .int 0, .int 0, .int 0, .int 0, .int 0]), .inr (1, [.int 0, .int (-1), .ref 4, .ref 5, .int 0, .int 0, .int 0, .int 0]), .inl (1, 40, .inl fun _ => 0), .inl (1, 4, .inl fun _ => 0), .inr (2, [.ref 7, .ref 8, .null, .null, .int 0, .int 0, .int 0]), .inr (3, [.int 1, .int 0, .null, .null, .null]), .inr (4, [.ref 1, .int 0, .int 0]), .inr (4, [.null, .int 0, .int 0])], 79)) rfl ?_
  refine zm_J_I (a := 9) (av := []) (rest := [.ref 9, .ref 6]) (Q1 := fun z G => z = .inl none ∧ G = ([.inl (0, L, .inl xs), .inr (99, []), .inr (0, [.ref 3, .null, .null, .null, .int 0, .int 0, .int 0, .int 0, .int 0]), .inr (1, [.int 0, .int (-1), .ref 4, .ref 5, .int 0, .int 0, .int 0, .int 0]), .inl (1, 40, .inl fun _ => 0), .inl (1, 4, .inl fun _ => 0), .inr (2, [.ref 7, .ref 8, .null, .null, .int 0, .int 0, .int 0]), .inr (3, [.int 1, .int 0, .null, .null, .null]), .inr (4, [.ref 1, .int 0, .int 0]), .inr (4, [.ref 1, .int 0, .int 0])], 79)) (zm_T.1 4 39 _ rfl).1 zc_4_39 (Nat.le_of_ble_eq_true rfl) (Nat.le_of_ble_eq_true rfl) (Nat.le_of_ble_eq_true rfl) (Nat.le_of_ble_eq_true rfl) (zi_8 N _ (by omega)) ?_ ?_
  rotate_left
  · intro x G' h; exact nomatch h.1
  intro v G' h
  obtain ⟨h1, rfl⟩ := h
  cases Sum.inl.inj h1
  show zm_J N _ 4 42 [(0, .ref 6)] [.ref 9, .ref 6] ([.inl (0, L, .inl xs), .inr (99, []), .inr (0, [.ref 3, .null, .null, .null, .int 0, .int 0, .int 0, .int 0, .int 0]), .inr (1, [.int 0, .int (-1), .ref 4, .ref 5, .int 0, .int 0, .int 0, .int 0]), .inl (1, 40, .inl fun _ => 0), .inl (1, 4, .inl fun _ => 0), .inr (2, [.ref 7, .ref 8, .null, .null, .int 0, .int 0, .int 0]), .inr (3, [.int 1, .int 0, .null, .null, .null]), .inr (4, [.ref 1, .int 0, .int 0]), .inr (4, [.ref 1, .int 0, .int 0])], 79) _
  refine zm_J_run zm_T 4 (pc' := 50) (lv' := [(0, .ref 6)]) (st' := [.ref 10, .ref 10, .ref 6]) (G' := ([.inl (0, L, .inl xs), .inr (99, []), .inr (0, [.ref 3, .null, .null, .null, .int 0, .int 0, .int 0, .int 0, .int 0]), .inr (1, [.int 0, .int (-1), .ref 4, .ref 5, .int 0, .int 0, .int 0, .int 0]), .inl (1, 40, .inl fun _ => 0), .inl (1, 4, .inl fun _ => 0), .inr (2, [.ref 7, .ref 8, .ref 9, .null, .int 0, .int 0, .int 0]), .inr (3, [.int 1, .int 0, .null, .null, .null]), .inr (4, [.ref 1, .int 0, .int 0]), .inr (4, [.ref 1, .int 0, .int 0]), .inr (4, [.null, .int 0, .int 0])], 82)) rfl ?_
  refine zm_J_I (a := 10) (av := []) (rest := [.ref 10, .ref 6]) (Q1 := fun z G => z = .inl none ∧ G = ([.inl (0, L, .inl xs), .inr (99, []), .inr (0, [.ref 3, .null, .null, .null, .int 0, .int 0, .int 0, .int 0, .int 0]), .inr (1, [.int 0, .int (-1), .ref 4, .ref 5, .int 0, .int 0, .int 0, .int 0]), .inl (1, 40, .inl fun _ => 0), .inl (1, 4, .inl fun _ => 0), .inr (2, [.ref 7, .ref 8, .ref 9, .null, .int 0, .int 0, .int 0]), .inr (3, [.int 1, .int 0, .null, .null, .null]), .inr (4, [.ref 1, .int 0, .int 0]), .inr (4, [.ref 1, .int 0, .int 0]), .inr (4, [.ref 1, .int 0, .int 0])], 82)) (zm_T.1 4 50 _ rfl).1 zc_4_50 (Nat.le_of_ble_eq_true rfl) (Nat.le_of_ble_eq_true rfl) (Nat.le_of_ble_eq_true rfl) (Nat.le_of_ble_eq_true rfl) (zi_11 N _ (by omega)) ?_ ?_
  rotate_left
  · intro x G' h; exact nomatch h.1
  intro v G' h
  obtain ⟨h1, rfl⟩ := h
  cases Sum.inl.inj h1
  show zm_J N _ 4 53 [(0, .ref 6)] [.ref 10, .ref 6] ([.inl (0, L, .inl xs), .inr (99, []), .inr (0, [.ref 3, .null, .null, .null, .int 0, .int 0, .int 0, .int 0, .int 0]), .inr (1, [.int 0, .int (-1), .ref 4, .ref 5, .int 0, .int 0, .int 0, .int 0]), .inl (1, 40, .inl fun _ => 0), .inl (1, 4, .inl fun _ => 0), .inr (2, [.ref 7, .ref 8, .ref 9, .null, .int 0, .int 0, .int 0]), .inr (3, [.int 1, .int 0, .null, .null, .null]), .inr (4, [.ref 1, .int 0, .int 0]), .inr (4, [.ref 1, .int 0, .int 0]), .inr (4, [.ref 1, .int 0, .int 0])], 82) _
  refine zm_J_run zm_T 1 (pc' := 56) (lv' := [(0, .ref 6)]) (st' := []) (G' := ([.inl (0, L, .inl xs), .inr (99, []), .inr (0, [.ref 3, .null, .null, .null, .int 0, .int 0, .int 0, .int 0, .int 0]), .inr (1, [.int 0, .int (-1), .ref 4, .ref 5, .int 0, .int 0, .int 0, .int 0]), .inl (1, 40, .inl fun _ => 0), .inl (1, 4, .inl fun _ => 0), .inr (2, [.ref 7, .ref 8, .ref 9, .ref 10, .int 0, .int 0, .int 0]), .inr (3, [.int 1, .int 0, .null, .null, .null]), .inr (4, [.ref 1, .int 0, .int 0]), .inr (4, [.ref 1, .int 0, .int 0]), .inr (4, [.ref 1, .int 0, .int 0])], 82)) rfl ?_
  exact zm_J_fin zm_T rfl rfl ⟨rfl, rfl⟩

set_option maxHeartbeats 40000000 in
set_option maxRecDepth 100000 in
/-- NeedMachine.<init> -/
theorem zi_13 {L : Nat} {xs : Nat → Int32} (N : zm_N) (d : Nat) (hd : 5 ≤ d) : zm_J N d 1 0 [(0, .ref 2)] [] ([.inl (0, L, .inl xs), .inr (99, []), .inr (0, [.null, .null, .null, .null, .int 0, .int 0, .int 0, .int 0, .int 0])], 9) (fun z G => z = .inl none ∧ G = ([.inl (0, L, .inl xs), .inr (99, []), .inr (0, [.ref 3, .ref 6, .ref 11, .null, .int 0, .int 0, .int 0, .int 0, .int 0]), .inr (1, [.int 0, .int (-1), .ref 4, .ref 5, .int 0, .int 0, .int 0, .int 0]), .inl (1, 40, .inl fun _ => 0), .inl (1, 4, .inl fun _ => 0), .inr (2, [.ref 7, .ref 8, .ref 9, .ref 10, .int 0, .int 0, .int 0]), .inr (3, [.int 1, .int 0, .null, .null, .null]), .inr (4, [.ref 1, .int 0, .int 0]), .inr (4, [.ref 1, .int 0, .int 0]), .inr (4, [.ref 1, .int 0, .int 0]), .inl (4, 6, .inr (.inr (.inr (.inr fun _ => none))))], 88)) := by
  obtain ⟨d, rfl⟩ : ∃ e, d = e + 1 := ⟨d - 1, by omega⟩
  refine zm_J_run zm_T 1 (pc' := 1) (lv' := [(0, .ref 2)]) (st' := [.ref 2]) (G' := ([.inl (0, L, .inl xs), .inr (99, []), .inr (0, [.null, .null, .null, .null, .int 0, .int 0, .int 0, .int 0, .int 0])], 9)) rfl ?_
  refine zm_J_O (zm_T.1 1 1 _ rfl).1 zc_1_1 (Nat.le_of_ble_eq_true rfl) ?_
  refine zm_J_run zm_T 3 (pc' := 9) (lv' := [(0, .ref 2)]) (st' := [.ref 3, .ref 3, .ref 2]) (G' := ([.inl (0, L, .inl xs), .inr (99, []), .inr (0, [.null, .null, .null, .null, .int 0, .int 0, .int 0, .int 0, .int 0]), .inr (1, [.int 0, .int 0, .null, .null, .int 0, .int 0, .int 0, .int 0])], 17)) rfl ?_
  refine zm_J_I (a := 3) (av := []) (rest := [.ref 3, .ref 2]) (Q1 := fun z G => z = .inl none ∧ G = ([.inl (0, L, .inl xs), .inr (99, []), .inr (0, [.null, .null, .null, .null, .int 0, .int 0, .int 0, .int 0, .int 0]), .inr (1, [.int 0, .int (-1), .ref 4, .ref 5, .int 0, .int 0, .int 0, .int 0]), .inl (1, 40, .inl fun _ => 0), .inl (1, 4, .inl fun _ => 0)], 61)) (zm_T.1 1 9 _ rfl).1 zc_1_9 (Nat.le_of_ble_eq_true rfl) (Nat.le_of_ble_eq_true rfl) (Nat.le_of_ble_eq_true rfl) (Nat.le_of_ble_eq_true rfl) (zi_1 N _ (by omega)) ?_ ?_
  rotate_left
  · intro x G' h; exact nomatch h.1
  intro v G' h
  obtain ⟨h1, rfl⟩ := h
  cases Sum.inl.inj h1
  show zm_J N _ 1 12 [(0, .ref 2)] [.ref 3, .ref 2] ([.inl (0, L, .inl xs), .inr (99, []), .inr (0, [.null, .null, .null, .null, .int 0, .int 0, .int 0, .int 0, .int 0]), .inr (1, [.int 0, .int (-1), .ref 4, .ref 5, .int 0, .int 0, .int 0, .int 0]), .inl (1, 40, .inl fun _ => 0), .inl (1, 4, .inl fun _ => 0)], 61) _
  refine zm_J_run zm_T 4 (pc' := 20) (lv' := [(0, .ref 2)]) (st' := [.ref 6, .ref 6, .ref 2]) (G' := ([.inl (0, L, .inl xs), .inr (99, []), .inr (0, [.ref 3, .null, .null, .null, .int 0, .int 0, .int 0, .int 0, .int 0]), .inr (1, [.int 0, .int (-1), .ref 4, .ref 5, .int 0, .int 0, .int 0, .int 0]), .inl (1, 40, .inl fun _ => 0), .inl (1, 4, .inl fun _ => 0), .inr (2, [.null, .null, .null, .null, .int 0, .int 0, .int 0])], 68)) rfl ?_
  refine zm_J_I (a := 6) (av := []) (rest := [.ref 6, .ref 2]) (Q1 := fun z G => z = .inl none ∧ G = ([.inl (0, L, .inl xs), .inr (99, []), .inr (0, [.ref 3, .null, .null, .null, .int 0, .int 0, .int 0, .int 0, .int 0]), .inr (1, [.int 0, .int (-1), .ref 4, .ref 5, .int 0, .int 0, .int 0, .int 0]), .inl (1, 40, .inl fun _ => 0), .inl (1, 4, .inl fun _ => 0), .inr (2, [.ref 7, .ref 8, .ref 9, .ref 10, .int 0, .int 0, .int 0]), .inr (3, [.int 1, .int 0, .null, .null, .null]), .inr (4, [.ref 1, .int 0, .int 0]), .inr (4, [.ref 1, .int 0, .int 0]), .inr (4, [.ref 1, .int 0, .int 0])], 82)) (zm_T.1 1 20 _ rfl).1 zc_1_20 (Nat.le_of_ble_eq_true rfl) (Nat.le_of_ble_eq_true rfl) (Nat.le_of_ble_eq_true rfl) (Nat.le_of_ble_eq_true rfl) (zi_12 N _ (by omega)) ?_ ?_
  rotate_left
  · intro x G' h; exact nomatch h.1
  intro v G' h
  obtain ⟨h1, rfl⟩ := h
  cases Sum.inl.inj h1
  show zm_J N _ 1 23 [(0, .ref 2)] [.ref 6, .ref 2] ([.inl (0, L, .inl xs), .inr (99, []), .inr (0, [.ref 3, .null, .null, .null, .int 0, .int 0, .int 0, .int 0, .int 0]), .inr (1, [.int 0, .int (-1), .ref 4, .ref 5, .int 0, .int 0, .int 0, .int 0]), .inl (1, 40, .inl fun _ => 0), .inl (1, 4, .inl fun _ => 0), .inr (2, [.ref 7, .ref 8, .ref 9, .ref 10, .int 0, .int 0, .int 0]), .inr (3, [.int 1, .int 0, .null, .null, .null]), .inr (4, [.ref 1, .int 0, .int 0]), .inr (4, [.ref 1, .int 0, .int 0]), .inr (4, [.ref 1, .int 0, .int 0])], 82) _
  refine zm_J_run zm_T 5 (pc' := 35) (lv' := [(0, .ref 2)]) (st' := []) (G' := ([.inl (0, L, .inl xs), .inr (99, []), .inr (0, [.ref 3, .ref 6, .ref 11, .null, .int 0, .int 0, .int 0, .int 0, .int 0]), .inr (1, [.int 0, .int (-1), .ref 4, .ref 5, .int 0, .int 0, .int 0, .int 0]), .inl (1, 40, .inl fun _ => 0), .inl (1, 4, .inl fun _ => 0), .inr (2, [.ref 7, .ref 8, .ref 9, .ref 10, .int 0, .int 0, .int 0]), .inr (3, [.int 1, .int 0, .null, .null, .null]), .inr (4, [.ref 1, .int 0, .int 0]), .inr (4, [.ref 1, .int 0, .int 0]), .inr (4, [.ref 1, .int 0, .int 0]), .inl (4, 6, .inr (.inr (.inr (.inr fun _ => none))))], 88)) rfl ?_
  exact zm_J_fin zm_T rfl rfl ⟨rfl, rfl⟩

set_option maxHeartbeats 40000000 in
set_option maxRecDepth 100000 in
/-- NeedMachineModel.<init> -/
theorem zi_14 {L : Nat} {xs : Nat → Int32} (N : zm_N) (d : Nat) (hd : 1 ≤ d) : zm_J N d 70 0 [(0, .ref 12)] [] ([.inl (0, L, .inl xs), .inr (99, []), .inr (0, [.ref 3, .ref 6, .ref 11, .null, .int 0, .int 0, .int 0, .int 0, .int 0]), .inr (1, [.int 0, .int (-1), .ref 4, .ref 5, .int 0, .int 0, .int 0, .int 0]), .inl (1, 40, .inl fun _ => 0), .inl (1, 4, .inl fun _ => 0), .inr (2, [.ref 7, .ref 8, .ref 9, .ref 10, .int 0, .int 0, .int 0]), .inr (3, [.int 1, .int 0, .null, .null, .null]), .inr (4, [.ref 1, .int 0, .int 0]), .inr (4, [.ref 1, .int 0, .int 0]), .inr (4, [.ref 1, .int 0, .int 0]), .inl (4, 6, .inr (.inr (.inr (.inr fun _ => none)))), .inr (5, [.null, .null, .null, .null, .null, .null, .null, .null, .int 0, .int 0, .int 0, .int 0, .int 0, .null, .null, .null, .null, .null, .null, .null, .null, .null, .null, .int 0, .int 0, .int 0, .null, .null, .null, .null, .null, .int 0, .int 0, .int 0, .int 0, .int 0, .int 0, .int 0, .int 0, .int 0, .int 0, .int 0, .int 0, .int 0])], 132) (fun z G => z = .inl none ∧ G = ([.inl (0, L, .inl xs), .inr (99, []), .inr (0, [.ref 3, .ref 6, .ref 11, .null, .int 0, .int 0, .int 0, .int 0, .int 0]), .inr (1, [.int 0, .int (-1), .ref 4, .ref 5, .int 0, .int 0, .int 0, .int 0]), .inl (1, 40, .inl fun _ => 0), .inl (1, 4, .inl fun _ => 0), .inr (2, [.ref 7, .ref 8, .ref 9, .ref 10, .int 0, .int 0, .int 0]), .inr (3, [.int 1, .int 0, .null, .null, .null]), .inr (4, [.ref 1, .int 0, .int 0]), .inr (4, [.ref 1, .int 0, .int 0]), .inr (4, [.ref 1, .int 0, .int 0]), .inl (4, 6, .inr (.inr (.inr (.inr fun _ => none)))), .inr (5, [.ref 13, .ref 14, .ref 15, .ref 16, .ref 17, .ref 18, .ref 19, .ref 20, .int 0, .int (-1), .int 0, .int 0, .int 0, .ref 21, .ref 22, .ref 23, .ref 24, .ref 25, .ref 26, .ref 27, .ref 28, .ref 29, .ref 30, .int 0, .int 0, .int 0, .ref 31, .ref 32, .ref 33, .ref 34, .ref 35, .int 0, .int 0, .int 0, .int 0, .int 0, .int 0, .int 0, .int 0, .int 0, .int 0, .int 0, .int 0, .int 0]), .inl (0, 40, .inl fun _ => 0), .inl (0, 21200, .inl fun _ => 0), .inl (0, 240, .inl fun _ => 0), .inl (0, 6, .inl fun _ => 0), .inl (0, 24, .inl fun _ => 0), .inl (0, 6, .inl fun _ => 0), .inl (0, 16, .inl fun _ => 0), .inl (3, 6, .inl fun _ => 0), .inl (0, 16400, .inl fun _ => 0), .inl (0, 16400, .inl fun _ => 0), .inl (0, 16400, .inl fun _ => 0), .inl (0, 16400, .inl fun _ => 0), .inl (0, 16400, .inl fun _ => 0), .inl (0, 16400, .inl fun _ => 0), .inl (0, 1700, .inl fun _ => 0), .inl (0, 1700, .inl fun _ => 0), .inl (0, 16400, .inl fun _ => 0), .inl (0, 16400, .inl fun _ => 0), .inl (0, 64, .inl fun _ => 0), .inl (0, 64, .inl fun _ => 0), .inl (0, 64, .inl fun _ => 0), .inl (0, 64, .inl fun _ => 0), .inl (0, 64, .inl fun _ => 0)], 156590)) := by
  obtain ⟨d, rfl⟩ : ∃ e, d = e + 1 := ⟨d - 1, by omega⟩
  refine zm_J_run zm_T 1 (pc' := 1) (lv' := [(0, .ref 12)]) (st' := [.ref 12]) (G' := ([.inl (0, L, .inl xs), .inr (99, []), .inr (0, [.ref 3, .ref 6, .ref 11, .null, .int 0, .int 0, .int 0, .int 0, .int 0]), .inr (1, [.int 0, .int (-1), .ref 4, .ref 5, .int 0, .int 0, .int 0, .int 0]), .inl (1, 40, .inl fun _ => 0), .inl (1, 4, .inl fun _ => 0), .inr (2, [.ref 7, .ref 8, .ref 9, .ref 10, .int 0, .int 0, .int 0]), .inr (3, [.int 1, .int 0, .null, .null, .null]), .inr (4, [.ref 1, .int 0, .int 0]), .inr (4, [.ref 1, .int 0, .int 0]), .inr (4, [.ref 1, .int 0, .int 0]), .inl (4, 6, .inr (.inr (.inr (.inr fun _ => none)))), .inr (5, [.null, .null, .null, .null, .null, .null, .null, .null, .int 0, .int 0, .int 0, .int 0, .int 0, .null, .null, .null, .null, .null, .null, .null, .null, .null, .null, .int 0, .int 0, .int 0, .null, .null, .null, .null, .null, .int 0, .int 0, .int 0, .int 0, .int 0, .int 0, .int 0, .int 0, .int 0, .int 0, .int 0, .int 0, .int 0])], 132)) rfl ?_
  refine zm_J_O (zm_T.1 70 1 _ rfl).1 zc_70_1 (Nat.le_of_ble_eq_true rfl) ?_
  refine zm_J_run zm_T 8 (pc' := 21) (lv' := [(0, .ref 12)]) (st' := []) (G' := ([.inl (0, L, .inl xs), .inr (99, []), .inr (0, [.ref 3, .ref 6, .ref 11, .null, .int 0, .int 0, .int 0, .int 0, .int 0]), .inr (1, [.int 0, .int (-1), .ref 4, .ref 5, .int 0, .int 0, .int 0, .int 0]), .inl (1, 40, .inl fun _ => 0), .inl (1, 4, .inl fun _ => 0), .inr (2, [.ref 7, .ref 8, .ref 9, .ref 10, .int 0, .int 0, .int 0]), .inr (3, [.int 1, .int 0, .null, .null, .null]), .inr (4, [.ref 1, .int 0, .int 0]), .inr (4, [.ref 1, .int 0, .int 0]), .inr (4, [.ref 1, .int 0, .int 0]), .inl (4, 6, .inr (.inr (.inr (.inr fun _ => none)))), .inr (5, [.ref 13, .ref 14, .null, .null, .null, .null, .null, .null, .int 0, .int 0, .int 0, .int 0, .int 0, .null, .null, .null, .null, .null, .null, .null, .null, .null, .null, .int 0, .int 0, .int 0, .null, .null, .null, .null, .null, .int 0, .int 0, .int 0, .int 0, .int 0, .int 0, .int 0, .int 0, .int 0, .int 0, .int 0, .int 0, .int 0]), .inl (0, 40, .inl fun _ => 0), .inl (0, 21200, .inl fun _ => 0)], 21372)) rfl ?_
  refine zm_J_run zm_T 8 (pc' := 38) (lv' := [(0, .ref 12)]) (st' := []) (G' := ([.inl (0, L, .inl xs), .inr (99, []), .inr (0, [.ref 3, .ref 6, .ref 11, .null, .int 0, .int 0, .int 0, .int 0, .int 0]), .inr (1, [.int 0, .int (-1), .ref 4, .ref 5, .int 0, .int 0, .int 0, .int 0]), .inl (1, 40, .inl fun _ => 0), .inl (1, 4, .inl fun _ => 0), .inr (2, [.ref 7, .ref 8, .ref 9, .ref 10, .int 0, .int 0, .int 0]), .inr (3, [.int 1, .int 0, .null, .null, .null]), .inr (4, [.ref 1, .int 0, .int 0]), .inr (4, [.ref 1, .int 0, .int 0]), .inr (4, [.ref 1, .int 0, .int 0]), .inl (4, 6, .inr (.inr (.inr (.inr fun _ => none)))), .inr (5, [.ref 13, .ref 14, .ref 15, .ref 16, .null, .null, .null, .null, .int 0, .int 0, .int 0, .int 0, .int 0, .null, .null, .null, .null, .null, .null, .null, .null, .null, .null, .int 0, .int 0, .int 0, .null, .null, .null, .null, .null, .int 0, .int 0, .int 0, .int 0, .int 0, .int 0, .int 0, .int 0, .int 0, .int 0, .int 0, .int 0, .int 0]), .inl (0, 40, .inl fun _ => 0), .inl (0, 21200, .inl fun _ => 0), .inl (0, 240, .inl fun _ => 0), .inl (0, 6, .inl fun _ => 0)], 21618)) rfl ?_
  refine zm_J_run zm_T 8 (pc' := 54) (lv' := [(0, .ref 12)]) (st' := []) (G' := ([.inl (0, L, .inl xs), .inr (99, []), .inr (0, [.ref 3, .ref 6, .ref 11, .null, .int 0, .int 0, .int 0, .int 0, .int 0]), .inr (1, [.int 0, .int (-1), .ref 4, .ref 5, .int 0, .int 0, .int 0, .int 0]), .inl (1, 40, .inl fun _ => 0), .inl (1, 4, .inl fun _ => 0), .inr (2, [.ref 7, .ref 8, .ref 9, .ref 10, .int 0, .int 0, .int 0]), .inr (3, [.int 1, .int 0, .null, .null, .null]), .inr (4, [.ref 1, .int 0, .int 0]), .inr (4, [.ref 1, .int 0, .int 0]), .inr (4, [.ref 1, .int 0, .int 0]), .inl (4, 6, .inr (.inr (.inr (.inr fun _ => none)))), .inr (5, [.ref 13, .ref 14, .ref 15, .ref 16, .ref 17, .ref 18, .null, .null, .int 0, .int 0, .int 0, .int 0, .int 0, .null, .null, .null, .null, .null, .null, .null, .null, .null, .null, .int 0, .int 0, .int 0, .null, .null, .null, .null, .null, .int 0, .int 0, .int 0, .int 0, .int 0, .int 0, .int 0, .int 0, .int 0, .int 0, .int 0, .int 0, .int 0]), .inl (0, 40, .inl fun _ => 0), .inl (0, 21200, .inl fun _ => 0), .inl (0, 240, .inl fun _ => 0), .inl (0, 6, .inl fun _ => 0), .inl (0, 24, .inl fun _ => 0), .inl (0, 6, .inl fun _ => 0)], 21648)) rfl ?_
  refine zm_J_run zm_T 8 (pc' := 70) (lv' := [(0, .ref 12)]) (st' := []) (G' := ([.inl (0, L, .inl xs), .inr (99, []), .inr (0, [.ref 3, .ref 6, .ref 11, .null, .int 0, .int 0, .int 0, .int 0, .int 0]), .inr (1, [.int 0, .int (-1), .ref 4, .ref 5, .int 0, .int 0, .int 0, .int 0]), .inl (1, 40, .inl fun _ => 0), .inl (1, 4, .inl fun _ => 0), .inr (2, [.ref 7, .ref 8, .ref 9, .ref 10, .int 0, .int 0, .int 0]), .inr (3, [.int 1, .int 0, .null, .null, .null]), .inr (4, [.ref 1, .int 0, .int 0]), .inr (4, [.ref 1, .int 0, .int 0]), .inr (4, [.ref 1, .int 0, .int 0]), .inl (4, 6, .inr (.inr (.inr (.inr fun _ => none)))), .inr (5, [.ref 13, .ref 14, .ref 15, .ref 16, .ref 17, .ref 18, .ref 19, .ref 20, .int 0, .int 0, .int 0, .int 0, .int 0, .null, .null, .null, .null, .null, .null, .null, .null, .null, .null, .int 0, .int 0, .int 0, .null, .null, .null, .null, .null, .int 0, .int 0, .int 0, .int 0, .int 0, .int 0, .int 0, .int 0, .int 0, .int 0, .int 0, .int 0, .int 0]), .inl (0, 40, .inl fun _ => 0), .inl (0, 21200, .inl fun _ => 0), .inl (0, 240, .inl fun _ => 0), .inl (0, 6, .inl fun _ => 0), .inl (0, 24, .inl fun _ => 0), .inl (0, 6, .inl fun _ => 0), .inl (0, 16, .inl fun _ => 0), .inl (3, 6, .inl fun _ => 0)], 21670)) rfl ?_
  refine zm_J_run zm_T 8 (pc' := 85) (lv' := [(0, .ref 12)]) (st' := [.ref 12]) (G' := ([.inl (0, L, .inl xs), .inr (99, []), .inr (0, [.ref 3, .ref 6, .ref 11, .null, .int 0, .int 0, .int 0, .int 0, .int 0]), .inr (1, [.int 0, .int (-1), .ref 4, .ref 5, .int 0, .int 0, .int 0, .int 0]), .inl (1, 40, .inl fun _ => 0), .inl (1, 4, .inl fun _ => 0), .inr (2, [.ref 7, .ref 8, .ref 9, .ref 10, .int 0, .int 0, .int 0]), .inr (3, [.int 1, .int 0, .null, .null, .null]), .inr (4, [.ref 1, .int 0, .int 0]), .inr (4, [.ref 1, .int 0, .int 0]), .inr (4, [.ref 1, .int 0, .int 0]), .inl (4, 6, .inr (.inr (.inr (.inr fun _ => none)))), .inr (5, [.ref 13, .ref 14, .ref 15, .ref 16, .ref 17, .ref 18, .ref 19, .ref 20, .int 0, .int (-1), .int 0, .int 0, .int 0, .ref 21, .null, .null, .null, .null, .null, .null, .null, .null, .null, .int 0, .int 0, .int 0, .null, .null, .null, .null, .null, .int 0, .int 0, .int 0, .int 0, .int 0, .int 0, .int 0, .int 0, .int 0, .int 0, .int 0, .int 0, .int 0]), .inl (0, 40, .inl fun _ => 0), .inl (0, 21200, .inl fun _ => 0), .inl (0, 240, .inl fun _ => 0), .inl (0, 6, .inl fun _ => 0), .inl (0, 24, .inl fun _ => 0), .inl (0, 6, .inl fun _ => 0), .inl (0, 16, .inl fun _ => 0), .inl (3, 6, .inl fun _ => 0), .inl (0, 16400, .inl fun _ => 0)], 38070)) rfl ?_
  refine zm_J_run zm_T 8 (pc' := 103) (lv' := [(0, .ref 12)]) (st' := [.ref 12]) (G' := ([.inl (0, L, .inl xs), .inr (99, []), .inr (0, [.ref 3, .ref 6, .ref 11, .null, .int 0, .int 0, .int 0, .int 0, .int 0]), .inr (1, [.int 0, .int (-1), .ref 4, .ref 5, .int 0, .int 0, .int 0, .int 0]), .inl (1, 40, .inl fun _ => 0), .inl (1, 4, .inl fun _ => 0), .inr (2, [.ref 7, .ref 8, .ref 9, .ref 10, .int 0, .int 0, .int 0]), .inr (3, [.int 1, .int 0, .null, .null, .null]), .inr (4, [.ref 1, .int 0, .int 0]), .inr (4, [.ref 1, .int 0, .int 0]), .inr (4, [.ref 1, .int 0, .int 0]), .inl (4, 6, .inr (.inr (.inr (.inr fun _ => none)))), .inr (5, [.ref 13, .ref 14, .ref 15, .ref 16, .ref 17, .ref 18, .ref 19, .ref 20, .int 0, .int (-1), .int 0, .int 0, .int 0, .ref 21, .ref 22, .ref 23, .null, .null, .null, .null, .null, .null, .null, .int 0, .int 0, .int 0, .null, .null, .null, .null, .null, .int 0, .int 0, .int 0, .int 0, .int 0, .int 0, .int 0, .int 0, .int 0, .int 0, .int 0, .int 0, .int 0]), .inl (0, 40, .inl fun _ => 0), .inl (0, 21200, .inl fun _ => 0), .inl (0, 240, .inl fun _ => 0), .inl (0, 6, .inl fun _ => 0), .inl (0, 24, .inl fun _ => 0), .inl (0, 6, .inl fun _ => 0), .inl (0, 16, .inl fun _ => 0), .inl (3, 6, .inl fun _ => 0), .inl (0, 16400, .inl fun _ => 0), .inl (0, 16400, .inl fun _ => 0), .inl (0, 16400, .inl fun _ => 0)], 70870)) rfl ?_
  refine zm_J_run zm_T 8 (pc' := 121) (lv' := [(0, .ref 12)]) (st' := [.ref 12]) (G' := ([.inl (0, L, .inl xs), .inr (99, []), .inr (0, [.ref 3, .ref 6, .ref 11, .null, .int 0, .int 0, .int 0, .int 0, .int 0]), .inr (1, [.int 0, .int (-1), .ref 4, .ref 5, .int 0, .int 0, .int 0, .int 0]), .inl (1, 40, .inl fun _ => 0), .inl (1, 4, .inl fun _ => 0), .inr (2, [.ref 7, .ref 8, .ref 9, .ref 10, .int 0, .int 0, .int 0]), .inr (3, [.int 1, .int 0, .null, .null, .null]), .inr (4, [.ref 1, .int 0, .int 0]), .inr (4, [.ref 1, .int 0, .int 0]), .inr (4, [.ref 1, .int 0, .int 0]), .inl (4, 6, .inr (.inr (.inr (.inr fun _ => none)))), .inr (5, [.ref 13, .ref 14, .ref 15, .ref 16, .ref 17, .ref 18, .ref 19, .ref 20, .int 0, .int (-1), .int 0, .int 0, .int 0, .ref 21, .ref 22, .ref 23, .ref 24, .ref 25, .null, .null, .null, .null, .null, .int 0, .int 0, .int 0, .null, .null, .null, .null, .null, .int 0, .int 0, .int 0, .int 0, .int 0, .int 0, .int 0, .int 0, .int 0, .int 0, .int 0, .int 0, .int 0]), .inl (0, 40, .inl fun _ => 0), .inl (0, 21200, .inl fun _ => 0), .inl (0, 240, .inl fun _ => 0), .inl (0, 6, .inl fun _ => 0), .inl (0, 24, .inl fun _ => 0), .inl (0, 6, .inl fun _ => 0), .inl (0, 16, .inl fun _ => 0), .inl (3, 6, .inl fun _ => 0), .inl (0, 16400, .inl fun _ => 0), .inl (0, 16400, .inl fun _ => 0), .inl (0, 16400, .inl fun _ => 0), .inl (0, 16400, .inl fun _ => 0), .inl (0, 16400, .inl fun _ => 0)], 103670)) rfl ?_
  refine zm_J_run zm_T 8 (pc' := 139) (lv' := [(0, .ref 12)]) (st' := [.ref 12]) (G' := ([.inl (0, L, .inl xs), .inr (99, []), .inr (0, [.ref 3, .ref 6, .ref 11, .null, .int 0, .int 0, .int 0, .int 0, .int 0]), .inr (1, [.int 0, .int (-1), .ref 4, .ref 5, .int 0, .int 0, .int 0, .int 0]), .inl (1, 40, .inl fun _ => 0), .inl (1, 4, .inl fun _ => 0), .inr (2, [.ref 7, .ref 8, .ref 9, .ref 10, .int 0, .int 0, .int 0]), .inr (3, [.int 1, .int 0, .null, .null, .null]), .inr (4, [.ref 1, .int 0, .int 0]), .inr (4, [.ref 1, .int 0, .int 0]), .inr (4, [.ref 1, .int 0, .int 0]), .inl (4, 6, .inr (.inr (.inr (.inr fun _ => none)))), .inr (5, [.ref 13, .ref 14, .ref 15, .ref 16, .ref 17, .ref 18, .ref 19, .ref 20, .int 0, .int (-1), .int 0, .int 0, .int 0, .ref 21, .ref 22, .ref 23, .ref 24, .ref 25, .ref 26, .ref 27, .null, .null, .null, .int 0, .int 0, .int 0, .null, .null, .null, .null, .null, .int 0, .int 0, .int 0, .int 0, .int 0, .int 0, .int 0, .int 0, .int 0, .int 0, .int 0, .int 0, .int 0]), .inl (0, 40, .inl fun _ => 0), .inl (0, 21200, .inl fun _ => 0), .inl (0, 240, .inl fun _ => 0), .inl (0, 6, .inl fun _ => 0), .inl (0, 24, .inl fun _ => 0), .inl (0, 6, .inl fun _ => 0), .inl (0, 16, .inl fun _ => 0), .inl (3, 6, .inl fun _ => 0), .inl (0, 16400, .inl fun _ => 0), .inl (0, 16400, .inl fun _ => 0), .inl (0, 16400, .inl fun _ => 0), .inl (0, 16400, .inl fun _ => 0), .inl (0, 16400, .inl fun _ => 0), .inl (0, 16400, .inl fun _ => 0), .inl (0, 1700, .inl fun _ => 0)], 121770)) rfl ?_
  refine zm_J_run zm_T 8 (pc' := 157) (lv' := [(0, .ref 12)]) (st' := [.ref 12]) (G' := ([.inl (0, L, .inl xs), .inr (99, []), .inr (0, [.ref 3, .ref 6, .ref 11, .null, .int 0, .int 0, .int 0, .int 0, .int 0]), .inr (1, [.int 0, .int (-1), .ref 4, .ref 5, .int 0, .int 0, .int 0, .int 0]), .inl (1, 40, .inl fun _ => 0), .inl (1, 4, .inl fun _ => 0), .inr (2, [.ref 7, .ref 8, .ref 9, .ref 10, .int 0, .int 0, .int 0]), .inr (3, [.int 1, .int 0, .null, .null, .null]), .inr (4, [.ref 1, .int 0, .int 0]), .inr (4, [.ref 1, .int 0, .int 0]), .inr (4, [.ref 1, .int 0, .int 0]), .inl (4, 6, .inr (.inr (.inr (.inr fun _ => none)))), .inr (5, [.ref 13, .ref 14, .ref 15, .ref 16, .ref 17, .ref 18, .ref 19, .ref 20, .int 0, .int (-1), .int 0, .int 0, .int 0, .ref 21, .ref 22, .ref 23, .ref 24, .ref 25, .ref 26, .ref 27, .ref 28, .ref 29, .null, .int 0, .int 0, .int 0, .null, .null, .null, .null, .null, .int 0, .int 0, .int 0, .int 0, .int 0, .int 0, .int 0, .int 0, .int 0, .int 0, .int 0, .int 0, .int 0]), .inl (0, 40, .inl fun _ => 0), .inl (0, 21200, .inl fun _ => 0), .inl (0, 240, .inl fun _ => 0), .inl (0, 6, .inl fun _ => 0), .inl (0, 24, .inl fun _ => 0), .inl (0, 6, .inl fun _ => 0), .inl (0, 16, .inl fun _ => 0), .inl (3, 6, .inl fun _ => 0), .inl (0, 16400, .inl fun _ => 0), .inl (0, 16400, .inl fun _ => 0), .inl (0, 16400, .inl fun _ => 0), .inl (0, 16400, .inl fun _ => 0), .inl (0, 16400, .inl fun _ => 0), .inl (0, 16400, .inl fun _ => 0), .inl (0, 1700, .inl fun _ => 0), .inl (0, 1700, .inl fun _ => 0), .inl (0, 16400, .inl fun _ => 0)], 139870)) rfl ?_
  refine zm_J_run zm_T 8 (pc' := 174) (lv' := [(0, .ref 12)]) (st' := [.ref 12]) (G' := ([.inl (0, L, .inl xs), .inr (99, []), .inr (0, [.ref 3, .ref 6, .ref 11, .null, .int 0, .int 0, .int 0, .int 0, .int 0]), .inr (1, [.int 0, .int (-1), .ref 4, .ref 5, .int 0, .int 0, .int 0, .int 0]), .inl (1, 40, .inl fun _ => 0), .inl (1, 4, .inl fun _ => 0), .inr (2, [.ref 7, .ref 8, .ref 9, .ref 10, .int 0, .int 0, .int 0]), .inr (3, [.int 1, .int 0, .null, .null, .null]), .inr (4, [.ref 1, .int 0, .int 0]), .inr (4, [.ref 1, .int 0, .int 0]), .inr (4, [.ref 1, .int 0, .int 0]), .inl (4, 6, .inr (.inr (.inr (.inr fun _ => none)))), .inr (5, [.ref 13, .ref 14, .ref 15, .ref 16, .ref 17, .ref 18, .ref 19, .ref 20, .int 0, .int (-1), .int 0, .int 0, .int 0, .ref 21, .ref 22, .ref 23, .ref 24, .ref 25, .ref 26, .ref 27, .ref 28, .ref 29, .ref 30, .int 0, .int 0, .int 0, .ref 31, .null, .null, .null, .null, .int 0, .int 0, .int 0, .int 0, .int 0, .int 0, .int 0, .int 0, .int 0, .int 0, .int 0, .int 0, .int 0]), .inl (0, 40, .inl fun _ => 0), .inl (0, 21200, .inl fun _ => 0), .inl (0, 240, .inl fun _ => 0), .inl (0, 6, .inl fun _ => 0), .inl (0, 24, .inl fun _ => 0), .inl (0, 6, .inl fun _ => 0), .inl (0, 16, .inl fun _ => 0), .inl (3, 6, .inl fun _ => 0), .inl (0, 16400, .inl fun _ => 0), .inl (0, 16400, .inl fun _ => 0), .inl (0, 16400, .inl fun _ => 0), .inl (0, 16400, .inl fun _ => 0), .inl (0, 16400, .inl fun _ => 0), .inl (0, 16400, .inl fun _ => 0), .inl (0, 1700, .inl fun _ => 0), .inl (0, 1700, .inl fun _ => 0), .inl (0, 16400, .inl fun _ => 0), .inl (0, 16400, .inl fun _ => 0), .inl (0, 64, .inl fun _ => 0)], 156334)) rfl ?_
  refine zm_J_run zm_T 8 (pc' := 190) (lv' := [(0, .ref 12)]) (st' := [.ref 12]) (G' := ([.inl (0, L, .inl xs), .inr (99, []), .inr (0, [.ref 3, .ref 6, .ref 11, .null, .int 0, .int 0, .int 0, .int 0, .int 0]), .inr (1, [.int 0, .int (-1), .ref 4, .ref 5, .int 0, .int 0, .int 0, .int 0]), .inl (1, 40, .inl fun _ => 0), .inl (1, 4, .inl fun _ => 0), .inr (2, [.ref 7, .ref 8, .ref 9, .ref 10, .int 0, .int 0, .int 0]), .inr (3, [.int 1, .int 0, .null, .null, .null]), .inr (4, [.ref 1, .int 0, .int 0]), .inr (4, [.ref 1, .int 0, .int 0]), .inr (4, [.ref 1, .int 0, .int 0]), .inl (4, 6, .inr (.inr (.inr (.inr fun _ => none)))), .inr (5, [.ref 13, .ref 14, .ref 15, .ref 16, .ref 17, .ref 18, .ref 19, .ref 20, .int 0, .int (-1), .int 0, .int 0, .int 0, .ref 21, .ref 22, .ref 23, .ref 24, .ref 25, .ref 26, .ref 27, .ref 28, .ref 29, .ref 30, .int 0, .int 0, .int 0, .ref 31, .ref 32, .ref 33, .null, .null, .int 0, .int 0, .int 0, .int 0, .int 0, .int 0, .int 0, .int 0, .int 0, .int 0, .int 0, .int 0, .int 0]), .inl (0, 40, .inl fun _ => 0), .inl (0, 21200, .inl fun _ => 0), .inl (0, 240, .inl fun _ => 0), .inl (0, 6, .inl fun _ => 0), .inl (0, 24, .inl fun _ => 0), .inl (0, 6, .inl fun _ => 0), .inl (0, 16, .inl fun _ => 0), .inl (3, 6, .inl fun _ => 0), .inl (0, 16400, .inl fun _ => 0), .inl (0, 16400, .inl fun _ => 0), .inl (0, 16400, .inl fun _ => 0), .inl (0, 16400, .inl fun _ => 0), .inl (0, 16400, .inl fun _ => 0), .inl (0, 16400, .inl fun _ => 0), .inl (0, 1700, .inl fun _ => 0), .inl (0, 1700, .inl fun _ => 0), .inl (0, 16400, .inl fun _ => 0), .inl (0, 16400, .inl fun _ => 0), .inl (0, 64, .inl fun _ => 0), .inl (0, 64, .inl fun _ => 0), .inl (0, 64, .inl fun _ => 0)], 156462)) rfl ?_
  refine zm_J_run zm_T 7 (pc' := 205) (lv' := [(0, .ref 12)]) (st' := []) (G' := ([.inl (0, L, .inl xs), .inr (99, []), .inr (0, [.ref 3, .ref 6, .ref 11, .null, .int 0, .int 0, .int 0, .int 0, .int 0]), .inr (1, [.int 0, .int (-1), .ref 4, .ref 5, .int 0, .int 0, .int 0, .int 0]), .inl (1, 40, .inl fun _ => 0), .inl (1, 4, .inl fun _ => 0), .inr (2, [.ref 7, .ref 8, .ref 9, .ref 10, .int 0, .int 0, .int 0]), .inr (3, [.int 1, .int 0, .null, .null, .null]), .inr (4, [.ref 1, .int 0, .int 0]), .inr (4, [.ref 1, .int 0, .int 0]), .inr (4, [.ref 1, .int 0, .int 0]), .inl (4, 6, .inr (.inr (.inr (.inr fun _ => none)))), .inr (5, [.ref 13, .ref 14, .ref 15, .ref 16, .ref 17, .ref 18, .ref 19, .ref 20, .int 0, .int (-1), .int 0, .int 0, .int 0, .ref 21, .ref 22, .ref 23, .ref 24, .ref 25, .ref 26, .ref 27, .ref 28, .ref 29, .ref 30, .int 0, .int 0, .int 0, .ref 31, .ref 32, .ref 33, .ref 34, .ref 35, .int 0, .int 0, .int 0, .int 0, .int 0, .int 0, .int 0, .int 0, .int 0, .int 0, .int 0, .int 0, .int 0]), .inl (0, 40, .inl fun _ => 0), .inl (0, 21200, .inl fun _ => 0), .inl (0, 240, .inl fun _ => 0), .inl (0, 6, .inl fun _ => 0), .inl (0, 24, .inl fun _ => 0), .inl (0, 6, .inl fun _ => 0), .inl (0, 16, .inl fun _ => 0), .inl (3, 6, .inl fun _ => 0), .inl (0, 16400, .inl fun _ => 0), .inl (0, 16400, .inl fun _ => 0), .inl (0, 16400, .inl fun _ => 0), .inl (0, 16400, .inl fun _ => 0), .inl (0, 16400, .inl fun _ => 0), .inl (0, 16400, .inl fun _ => 0), .inl (0, 1700, .inl fun _ => 0), .inl (0, 1700, .inl fun _ => 0), .inl (0, 16400, .inl fun _ => 0), .inl (0, 16400, .inl fun _ => 0), .inl (0, 64, .inl fun _ => 0), .inl (0, 64, .inl fun _ => 0), .inl (0, 64, .inl fun _ => 0), .inl (0, 64, .inl fun _ => 0), .inl (0, 64, .inl fun _ => 0)], 156590)) rfl ?_
  exact zm_J_fin zm_T rfl rfl ⟨rfl, rfl⟩

set_option maxHeartbeats 40000000 in
set_option maxRecDepth 100000 in
theorem zl_pre {L : Nat} {xs : Nat → Int32} (N : zm_N) (d : Nat) (hd : 6 ≤ d) {Q : zm_O → zm_H → Prop} (kk : zm_J N d 0 23 [(4, .int 0), (3, .ref 36), (2, .ref 12), (1, .ref 2), (0, .ref 0)] [] ([.inl (0, L, .inl xs), .inr (99, []), .inr (0, [.ref 3, .ref 6, .ref 11, .null, .int 0, .int 0, .int 0, .int 0, .int 0]), .inr (1, [.int 0, .int (-1), .ref 4, .ref 5, .int 0, .int 0, .int 0, .int 0]), .inl (1, 40, .inl fun _ => 0), .inl (1, 4, .inl fun _ => 0), .inr (2, [.ref 7, .ref 8, .ref 9, .ref 10, .int 0, .int 0, .int 0]), .inr (3, [.int 1, .int 0, .null, .null, .null]), .inr (4, [.ref 1, .int 0, .int 0]), .inr (4, [.ref 1, .int 0, .int 0]), .inr (4, [.ref 1, .int 0, .int 0]), .inl (4, 6, .inr (.inr (.inr (.inr fun _ => none)))), .inr (5, [.ref 13, .ref 14, .ref 15, .ref 16, .ref 17, .ref 18, .ref 19, .ref 20, .int 0, .int (-1), .int 0, .int 0, .int 0, .ref 21, .ref 22, .ref 23, .ref 24, .ref 25, .ref 26, .ref 27, .ref 28, .ref 29, .ref 30, .int 0, .int 0, .int 0, .ref 31, .ref 32, .ref 33, .ref 34, .ref 35, .int 0, .int 0, .int 0, .int 0, .int 0, .int 0, .int 0, .int 0, .int 0, .int 0, .int 0, .int 0, .int 0]), .inl (0, 40, .inl fun _ => 0), .inl (0, 21200, .inl fun _ => 0), .inl (0, 240, .inl fun _ => 0), .inl (0, 6, .inl fun _ => 0), .inl (0, 24, .inl fun _ => 0), .inl (0, 6, .inl fun _ => 0), .inl (0, 16, .inl fun _ => 0), .inl (3, 6, .inl fun _ => 0), .inl (0, 16400, .inl fun _ => 0), .inl (0, 16400, .inl fun _ => 0), .inl (0, 16400, .inl fun _ => 0), .inl (0, 16400, .inl fun _ => 0), .inl (0, 16400, .inl fun _ => 0), .inl (0, 16400, .inl fun _ => 0), .inl (0, 1700, .inl fun _ => 0), .inl (0, 1700, .inl fun _ => 0), .inl (0, 16400, .inl fun _ => 0), .inl (0, 16400, .inl fun _ => 0), .inl (0, 64, .inl fun _ => 0), .inl (0, 64, .inl fun _ => 0), .inl (0, 64, .inl fun _ => 0), .inl (0, 64, .inl fun _ => 0), .inl (0, 64, .inl fun _ => 0), .inl (2, 1, .inr (.inl fun _ => 0))], 156591) Q) : zm_J N d 0 0 [(0, .ref 0)] [] ([.inl (0, L, .inl xs), .inr (99, [])], 0) Q := by
  obtain ⟨d, rfl⟩ : ∃ e, d = e + 1 := ⟨d - 1, by omega⟩
  refine zm_J_run zm_T 2 (pc' := 4) (lv' := [(0, .ref 0)]) (st' := [.ref 2, .ref 2]) (G' := ([.inl (0, L, .inl xs), .inr (99, []), .inr (0, [.null, .null, .null, .null, .int 0, .int 0, .int 0, .int 0, .int 0])], 9)) rfl ?_
  refine zm_J_I (a := 2) (av := []) (rest := [.ref 2]) (Q1 := fun z G => z = .inl none ∧ G = ([.inl (0, L, .inl xs), .inr (99, []), .inr (0, [.ref 3, .ref 6, .ref 11, .null, .int 0, .int 0, .int 0, .int 0, .int 0]), .inr (1, [.int 0, .int (-1), .ref 4, .ref 5, .int 0, .int 0, .int 0, .int 0]), .inl (1, 40, .inl fun _ => 0), .inl (1, 4, .inl fun _ => 0), .inr (2, [.ref 7, .ref 8, .ref 9, .ref 10, .int 0, .int 0, .int 0]), .inr (3, [.int 1, .int 0, .null, .null, .null]), .inr (4, [.ref 1, .int 0, .int 0]), .inr (4, [.ref 1, .int 0, .int 0]), .inr (4, [.ref 1, .int 0, .int 0]), .inl (4, 6, .inr (.inr (.inr (.inr fun _ => none))))], 88)) (zm_T.1 0 4 _ rfl).1 zc_0_4 (Nat.le_of_ble_eq_true rfl) (Nat.le_of_ble_eq_true rfl) (Nat.le_of_ble_eq_true rfl) (Nat.le_of_ble_eq_true rfl) (zi_13 N _ (by omega)) ?_ ?_
  rotate_left
  · intro x G' h; exact nomatch h.1
  intro v G' h
  obtain ⟨h1, rfl⟩ := h
  cases Sum.inl.inj h1
  show zm_J N _ 0 7 [(0, .ref 0)] [.ref 2] ([.inl (0, L, .inl xs), .inr (99, []), .inr (0, [.ref 3, .ref 6, .ref 11, .null, .int 0, .int 0, .int 0, .int 0, .int 0]), .inr (1, [.int 0, .int (-1), .ref 4, .ref 5, .int 0, .int 0, .int 0, .int 0]), .inl (1, 40, .inl fun _ => 0), .inl (1, 4, .inl fun _ => 0), .inr (2, [.ref 7, .ref 8, .ref 9, .ref 10, .int 0, .int 0, .int 0]), .inr (3, [.int 1, .int 0, .null, .null, .null]), .inr (4, [.ref 1, .int 0, .int 0]), .inr (4, [.ref 1, .int 0, .int 0]), .inr (4, [.ref 1, .int 0, .int 0]), .inl (4, 6, .inr (.inr (.inr (.inr fun _ => none))))], 88) _
  refine zm_J_run zm_T 3 (pc' := 12) (lv' := [(1, .ref 2), (0, .ref 0)]) (st' := [.ref 12, .ref 12]) (G' := ([.inl (0, L, .inl xs), .inr (99, []), .inr (0, [.ref 3, .ref 6, .ref 11, .null, .int 0, .int 0, .int 0, .int 0, .int 0]), .inr (1, [.int 0, .int (-1), .ref 4, .ref 5, .int 0, .int 0, .int 0, .int 0]), .inl (1, 40, .inl fun _ => 0), .inl (1, 4, .inl fun _ => 0), .inr (2, [.ref 7, .ref 8, .ref 9, .ref 10, .int 0, .int 0, .int 0]), .inr (3, [.int 1, .int 0, .null, .null, .null]), .inr (4, [.ref 1, .int 0, .int 0]), .inr (4, [.ref 1, .int 0, .int 0]), .inr (4, [.ref 1, .int 0, .int 0]), .inl (4, 6, .inr (.inr (.inr (.inr fun _ => none)))), .inr (5, [.null, .null, .null, .null, .null, .null, .null, .null, .int 0, .int 0, .int 0, .int 0, .int 0, .null, .null, .null, .null, .null, .null, .null, .null, .null, .null, .int 0, .int 0, .int 0, .null, .null, .null, .null, .null, .int 0, .int 0, .int 0, .int 0, .int 0, .int 0, .int 0, .int 0, .int 0, .int 0, .int 0, .int 0, .int 0])], 132)) rfl ?_
  refine zm_J_I (a := 12) (av := []) (rest := [.ref 12]) (Q1 := fun z G => z = .inl none ∧ G = ([.inl (0, L, .inl xs), .inr (99, []), .inr (0, [.ref 3, .ref 6, .ref 11, .null, .int 0, .int 0, .int 0, .int 0, .int 0]), .inr (1, [.int 0, .int (-1), .ref 4, .ref 5, .int 0, .int 0, .int 0, .int 0]), .inl (1, 40, .inl fun _ => 0), .inl (1, 4, .inl fun _ => 0), .inr (2, [.ref 7, .ref 8, .ref 9, .ref 10, .int 0, .int 0, .int 0]), .inr (3, [.int 1, .int 0, .null, .null, .null]), .inr (4, [.ref 1, .int 0, .int 0]), .inr (4, [.ref 1, .int 0, .int 0]), .inr (4, [.ref 1, .int 0, .int 0]), .inl (4, 6, .inr (.inr (.inr (.inr fun _ => none)))), .inr (5, [.ref 13, .ref 14, .ref 15, .ref 16, .ref 17, .ref 18, .ref 19, .ref 20, .int 0, .int (-1), .int 0, .int 0, .int 0, .ref 21, .ref 22, .ref 23, .ref 24, .ref 25, .ref 26, .ref 27, .ref 28, .ref 29, .ref 30, .int 0, .int 0, .int 0, .ref 31, .ref 32, .ref 33, .ref 34, .ref 35, .int 0, .int 0, .int 0, .int 0, .int 0, .int 0, .int 0, .int 0, .int 0, .int 0, .int 0, .int 0, .int 0]), .inl (0, 40, .inl fun _ => 0), .inl (0, 21200, .inl fun _ => 0), .inl (0, 240, .inl fun _ => 0), .inl (0, 6, .inl fun _ => 0), .inl (0, 24, .inl fun _ => 0), .inl (0, 6, .inl fun _ => 0), .inl (0, 16, .inl fun _ => 0), .inl (3, 6, .inl fun _ => 0), .inl (0, 16400, .inl fun _ => 0), .inl (0, 16400, .inl fun _ => 0), .inl (0, 16400, .inl fun _ => 0), .inl (0, 16400, .inl fun _ => 0), .inl (0, 16400, .inl fun _ => 0), .inl (0, 16400, .inl fun _ => 0), .inl (0, 1700, .inl fun _ => 0), .inl (0, 1700, .inl fun _ => 0), .inl (0, 16400, .inl fun _ => 0), .inl (0, 16400, .inl fun _ => 0), .inl (0, 64, .inl fun _ => 0), .inl (0, 64, .inl fun _ => 0), .inl (0, 64, .inl fun _ => 0), .inl (0, 64, .inl fun _ => 0), .inl (0, 64, .inl fun _ => 0)], 156590)) (zm_T.1 0 12 _ rfl).1 zc_0_12 (Nat.le_of_ble_eq_true rfl) (Nat.le_of_ble_eq_true rfl) (Nat.le_of_ble_eq_true rfl) (Nat.le_of_ble_eq_true rfl) (zi_14 N _ (by omega)) ?_ ?_
  rotate_left
  · intro x G' h; exact nomatch h.1
  intro v G' h
  obtain ⟨h1, rfl⟩ := h
  cases Sum.inl.inj h1
  show zm_J N _ 0 15 [(1, .ref 2), (0, .ref 0)] [.ref 12] ([.inl (0, L, .inl xs), .inr (99, []), .inr (0, [.ref 3, .ref 6, .ref 11, .null, .int 0, .int 0, .int 0, .int 0, .int 0]), .inr (1, [.int 0, .int (-1), .ref 4, .ref 5, .int 0, .int 0, .int 0, .int 0]), .inl (1, 40, .inl fun _ => 0), .inl (1, 4, .inl fun _ => 0), .inr (2, [.ref 7, .ref 8, .ref 9, .ref 10, .int 0, .int 0, .int 0]), .inr (3, [.int 1, .int 0, .null, .null, .null]), .inr (4, [.ref 1, .int 0, .int 0]), .inr (4, [.ref 1, .int 0, .int 0]), .inr (4, [.ref 1, .int 0, .int 0]), .inl (4, 6, .inr (.inr (.inr (.inr fun _ => none)))), .inr (5, [.ref 13, .ref 14, .ref 15, .ref 16, .ref 17, .ref 18, .ref 19, .ref 20, .int 0, .int (-1), .int 0, .int 0, .int 0, .ref 21, .ref 22, .ref 23, .ref 24, .ref 25, .ref 26, .ref 27, .ref 28, .ref 29, .ref 30, .int 0, .int 0, .int 0, .ref 31, .ref 32, .ref 33, .ref 34, .ref 35, .int 0, .int 0, .int 0, .int 0, .int 0, .int 0, .int 0, .int 0, .int 0, .int 0, .int 0, .int 0, .int 0]), .inl (0, 40, .inl fun _ => 0), .inl (0, 21200, .inl fun _ => 0), .inl (0, 240, .inl fun _ => 0), .inl (0, 6, .inl fun _ => 0), .inl (0, 24, .inl fun _ => 0), .inl (0, 6, .inl fun _ => 0), .inl (0, 16, .inl fun _ => 0), .inl (3, 6, .inl fun _ => 0), .inl (0, 16400, .inl fun _ => 0), .inl (0, 16400, .inl fun _ => 0), .inl (0, 16400, .inl fun _ => 0), .inl (0, 16400, .inl fun _ => 0), .inl (0, 16400, .inl fun _ => 0), .inl (0, 16400, .inl fun _ => 0), .inl (0, 1700, .inl fun _ => 0), .inl (0, 1700, .inl fun _ => 0), .inl (0, 16400, .inl fun _ => 0), .inl (0, 16400, .inl fun _ => 0), .inl (0, 64, .inl fun _ => 0), .inl (0, 64, .inl fun _ => 0), .inl (0, 64, .inl fun _ => 0), .inl (0, 64, .inl fun _ => 0), .inl (0, 64, .inl fun _ => 0)], 156590) _
  refine zm_J_run zm_T 6 (pc' := 23) (lv' := [(4, .int 0), (3, .ref 36), (2, .ref 12), (1, .ref 2), (0, .ref 0)]) (st' := []) (G' := ([.inl (0, L, .inl xs), .inr (99, []), .inr (0, [.ref 3, .ref 6, .ref 11, .null, .int 0, .int 0, .int 0, .int 0, .int 0]), .inr (1, [.int 0, .int (-1), .ref 4, .ref 5, .int 0, .int 0, .int 0, .int 0]), .inl (1, 40, .inl fun _ => 0), .inl (1, 4, .inl fun _ => 0), .inr (2, [.ref 7, .ref 8, .ref 9, .ref 10, .int 0, .int 0, .int 0]), .inr (3, [.int 1, .int 0, .null, .null, .null]), .inr (4, [.ref 1, .int 0, .int 0]), .inr (4, [.ref 1, .int 0, .int 0]), .inr (4, [.ref 1, .int 0, .int 0]), .inl (4, 6, .inr (.inr (.inr (.inr fun _ => none)))), .inr (5, [.ref 13, .ref 14, .ref 15, .ref 16, .ref 17, .ref 18, .ref 19, .ref 20, .int 0, .int (-1), .int 0, .int 0, .int 0, .ref 21, .ref 22, .ref 23, .ref 24, .ref 25, .ref 26, .ref 27, .ref 28, .ref 29, .ref 30, .int 0, .int 0, .int 0, .ref 31, .ref 32, .ref 33, .ref 34, .ref 35, .int 0, .int 0, .int 0, .int 0, .int 0, .int 0, .int 0, .int 0, .int 0, .int 0, .int 0, .int 0, .int 0]), .inl (0, 40, .inl fun _ => 0), .inl (0, 21200, .inl fun _ => 0), .inl (0, 240, .inl fun _ => 0), .inl (0, 6, .inl fun _ => 0), .inl (0, 24, .inl fun _ => 0), .inl (0, 6, .inl fun _ => 0), .inl (0, 16, .inl fun _ => 0), .inl (3, 6, .inl fun _ => 0), .inl (0, 16400, .inl fun _ => 0), .inl (0, 16400, .inl fun _ => 0), .inl (0, 16400, .inl fun _ => 0), .inl (0, 16400, .inl fun _ => 0), .inl (0, 16400, .inl fun _ => 0), .inl (0, 16400, .inl fun _ => 0), .inl (0, 1700, .inl fun _ => 0), .inl (0, 1700, .inl fun _ => 0), .inl (0, 16400, .inl fun _ => 0), .inl (0, 16400, .inl fun _ => 0), .inl (0, 64, .inl fun _ => 0), .inl (0, 64, .inl fun _ => 0), .inl (0, 64, .inl fun _ => 0), .inl (0, 64, .inl fun _ => 0), .inl (0, 64, .inl fun _ => 0), .inl (2, 1, .inr (.inl fun _ => 0))], 156591)) rfl ?_
  exact kk
end
section
/-! TYPE ON FRESH OBJECTS -/
/-- the law's heap while type runs: the class's length and text, the reference's thrown, size and text, the law's own cell, what was thrown -/
def zp_H (xs : Nat → Int32) (ln : Int32) (f : Nat → Int32) (th sz : Int32) (g : Nat → Int32) (o : Nat → Int64) (ex : List zm_E) (sl : Nat) : zm_H := ([.inl (0, 3, .inl xs), .inr (99, []), .inr (0, [.ref 3, .ref 6, .ref 11, .null, .int 0, .int 0, .int 0, .int 0, .int 0]), .inr (1, [.int ln, .int (-1), .ref 4, .ref 5, .int 0, .int 0, .int 0, .int 0]), .inl (1, 40, .inl f), .inl (1, 4, .inl fun _ => 0), .inr (2, [.ref 7, .ref 8, .ref 9, .ref 10, .int 0, .int 0, .int 0]), .inr (3, [.int 1, .int 0, .null, .null, .null]), .inr (4, [.ref 1, .int 0, .int 0]), .inr (4, [.ref 1, .int 0, .int 0]), .inr (4, [.ref 1, .int 0, .int 0]), .inl (4, 6, .inr (.inr (.inr (.inr fun _ => none)))), .inr (5, [.ref 13, .ref 14, .ref 15, .ref 16, .ref 17, .ref 18, .ref 19, .ref 20, .int sz, .int (-1), .int 0, .int 0, .int th, .ref 21, .ref 22, .ref 23, .ref 24, .ref 25, .ref 26, .ref 27, .ref 28, .ref 29, .ref 30, .int 0, .int 0, .int 0, .ref 31, .ref 32, .ref 33, .ref 34, .ref 35, .int 0, .int 0, .int 0, .int 0, .int 0, .int 0, .int 0, .int 0, .int 0, .int 0, .int 0, .int 0, .int 0]), .inl (0, 40, .inl g), .inl (0, 21200, .inl fun _ => 0), .inl (0, 240, .inl fun _ => 0), .inl (0, 6, .inl fun _ => 0), .inl (0, 24, .inl fun _ => 0), .inl (0, 6, .inl fun _ => 0), .inl (0, 16, .inl fun _ => 0), .inl (3, 6, .inl fun _ => 0), .inl (0, 16400, .inl fun _ => 0), .inl (0, 16400, .inl fun _ => 0), .inl (0, 16400, .inl fun _ => 0), .inl (0, 16400, .inl fun _ => 0), .inl (0, 16400, .inl fun _ => 0), .inl (0, 16400, .inl fun _ => 0), .inl (0, 1700, .inl fun _ => 0), .inl (0, 1700, .inl fun _ => 0), .inl (0, 16400, .inl fun _ => 0), .inl (0, 16400, .inl fun _ => 0), .inl (0, 64, .inl fun _ => 0), .inl (0, 64, .inl fun _ => 0), .inl (0, 64, .inl fun _ => 0), .inl (0, 64, .inl fun _ => 0), .inl (0, 64, .inl fun _ => 0), .inl (2, 1, .inr (.inl o))] ++ ex, sl)
theorem zp_len {xs : Nat → Int32} {ln : Int32} {f : Nat → Int32} {th sz : Int32} {g : Nat → Int32} {o : Nat → Int64} {ex : List zm_E} {sl : Nat} (h : ex.length ≤ 2) : (zp_H xs ln f th sz g o ex sl).1.length + 1 ≤ zm_C := by
  show (_ ++ ex).length + 1 ≤ 600004
  rw [List.length_append]
  simp only [List.length_cons, List.length_nil]
  omega
def zt_b (p : Int64) (s : Int32) : Int32 := (p.toUInt64 >>> (s.toInt64.toUInt64 &&& Int64.toUInt64 63)).toInt64.toInt32 &&& 255
def zt_s (n : Nat) : Int32 := nI (8 * n) + (-8)
theorem zt_s0 : zt_s 0 < 0 := by decide +kernel
theorem zt_sp : ∀ n, n < 8 → ¬ zt_s (n + 1) < 0 := by decide +kernel
theorem zt_sn : ∀ n, n < 8 → zt_s (n + 1) + (-8) = zt_s n := by decide +kernel
theorem zt_s8 : zt_s 8 = 56 := by decide +kernel
def zt_bad (c : Int32) : Prop := c ≠ 0 ∧ (c < 33 ∨ 126 < c)
def zt_n (p : Int64) : Nat → Nat
  | 0 => 0
  | n + 1 => zt_n p n + (if zt_b p (zt_s (n + 1)) = 0 then 0 else 1)
def zt_B (p : Int64) (n : Nat) : Prop := ∃ i, i < n ∧ zt_bad (zt_b p (zt_s (i + 1)))
theorem zt_n_le (p : Int64) (n : Nat) : zt_n p n ≤ n := by
  induction n with
  | zero => exact Nat.le_refl 0
  | succ n ih =>
    unfold zt_n
    split <;> omega
theorem zt_B_up {p : Int64} {n : Nat} (h : zt_B p n) : zt_B p (n + 1) := by
  obtain ⟨i, h1, h2⟩ := h
  exact ⟨i, by omega, h2⟩
theorem zt_B_no {p : Int64} {n : Nat} (h : ¬ zt_B p n) (h2 : ¬ zt_bad (zt_b p (zt_s (n + 1)))) : ¬ zt_B p (n + 1) := by
  rintro ⟨i, h3, h4⟩
  by_cases hi : i = n
  · subst hi; exact h2 h4
  · exact h ⟨i, by omega, h4⟩
theorem zt_add (a : Int32) (p : Int64) (n : Nat) : a + (if zt_b p (zt_s (n + 1)) = 0 then 0 else 1) + nI (zt_n p n) = a + nI (zt_n p (n + 1)) := by
  show _ = a + nI (zt_n p n + (if zt_b p (zt_s (n + 1)) = 0 then 0 else 1))
  split
  · rw [Int32.add_zero, Nat.add_zero]
  · rw [← nI_add, Int32.add_assoc, Int32.add_comm 1]
    rfl
theorem zt_byteAt (N : zm_N) (d : Nat) (p : Int64) (s : Int32) (G : zm_H) : zm_J N d 14 0 [(0, .long p), (2, .int s)] [] G (fun z G' => z = .inl (some (.int (zt_b p s))) ∧ G' = G) := by
  refine zm_J_run zm_T 6 (pc' := 8) (lv' := [(0, .long p), (2, .int s)]) (st' := [.int (zt_b p s)]) (G' := G) rfl ?_
  exact zm_J_fin zm_T rfl rfl ⟨rfl, rfl⟩
abbrev zt_lv (p : Int64) (a s : Int32) : zm_L := [(0, .ref 3), (1, .long p), (3, .int a), (4, .int s)]
theorem zt_c48 {N : zm_N} {d : Nat} {p : Int64} {G : zm_H} {Q : zm_O → zm_H → Prop} {a s c : Int32} (k : zm_J N d 13 6 (zt_lv p (a + (if c = 0 then 0 else 1)) (s + (-8))) [] G Q) : zm_J N d 13 48 ((5, .int c) :: zt_lv p a s) [] G Q := by
  refine zm_J_run zm_T 3 (pc' := if c = 0 then 58 else 54) (lv' := (5, .int c) :: zt_lv p a s) (st' := [.int a]) (G' := G) rfl ?_
  by_cases h0 : c = 0
  · rw [if_pos h0] at k ⊢
    refine zm_J_run zm_T 5 (pc' := 6) (lv' := [(4, .int (s + (-8))), (3, .int (a + 0)), (5, .int c), (0, .ref 3), (1, .long p)]) (st' := []) (G' := G) rfl ?_
    exact zm_J_lv (by simp) k
  · rw [if_neg h0] at k ⊢
    refine zm_J_run zm_T 6 (pc' := 6) (lv' := [(4, .int (s + (-8))), (3, .int (a + 1)), (5, .int c), (0, .ref 3), (1, .long p)]) (st' := []) (G' := G) rfl ?_
    exact zm_J_lv (by simp) k
theorem zt_h1 {N : zm_N} {d : Nat} {p : Int64} {G : zm_H} {Q : zm_O → zm_H → Prop} {a s : Int32} (hs : ¬ s < 0) (k : zm_J N d 13 14 (zt_lv p a s) [.int s, .long p] G Q) : zm_J N d 13 6 (zt_lv p a s) [] G Q := by
  refine zm_J_run zm_T 2 (pc' := if s < 0 then 67 else 11) (lv' := zt_lv p a s) (st' := []) (G' := G) rfl ?_
  rw [if_neg hs]
  exact zm_J_run zm_T 2 (pc' := 14) (lv' := zt_lv p a s) (st' := [.int s, .long p]) (G' := G) rfl k
/-- the first loop of the class's add -/
theorem zt_l1 {N : zm_N} {d : Nat} {p : Int64} {G : zm_H} {Q : zm_O → zm_H → Prop} (hr : zm_room G 6 = true) (hc : G.1.length ≤ zm_C) (hsl : G.2 ≤ zm_S) (hd : 7 ≤ d) (hbad : zt_B p 8 → Q (.inr (0, G.1.length)) (zm_new G (.inr (zm_cl.length, [])) 6)) :
    ∀ n, n ≤ 8 → ∀ a, (zt_B p n → zt_B p 8) → (¬ zt_B p n → zm_J N (d + 1) 13 67 (zt_lv p (a + nI (zt_n p n)) (zt_s 0)) [] G Q) → zm_J N (d + 1) 13 6 (zt_lv p a (zt_s n)) [] G Q := by
  intro n
  induction n with
  | zero =>
    intro _ a _ kok
    refine zm_J_run zm_T 2 (pc' := if zt_s 0 < 0 then 67 else 11) (lv' := zt_lv p a (zt_s 0)) (st' := []) (G' := G) rfl ?_
    rw [if_pos zt_s0]
    have h := kok (fun h => by obtain ⟨i, h1, -⟩ := h; omega)
    have e : a + nI (zt_n p 0) = a := by show a + nI 0 = a; rw [nI_0, Int32.add_zero]
    rw [e] at h
    exact h
  | succ n ih =>
    intro hn a hB kok
    refine zt_h1 (zt_sp n (by omega)) ?_
    refine zm_J_S (av := [.long p, .int (zt_s (n + 1))]) (rest := []) (Q1 := fun z G' => z = .inl (some (.int (zt_b p (zt_s (n + 1))))) ∧ G' = G) (zm_T.1 13 14 _ rfl).1 zc_13_14 (Nat.le_of_ble_eq_true rfl) (Nat.le_of_ble_eq_true rfl) hc hsl (zt_byteAt N d p (zt_s (n + 1)) G) ?_ ?_
    rotate_left
    · intro x G' h; exact nomatch h.1
    intro v G' h
    obtain ⟨h1, h2⟩ := h
    subst h2
    cases Sum.inl.inj h1
    have hs := zt_sn n (by omega)
    have k48 : ¬ zt_bad (zt_b p (zt_s (n + 1))) → zm_J N (d + 1) 13 48 ((5, .int (zt_b p (zt_s (n + 1)))) :: zt_lv p a (zt_s (n + 1))) [] G' Q := fun hnb => zt_c48 (by
      rw [hs]
      refine ih (by omega) _ (fun h => hB (zt_B_up h)) (fun h => ?_)
      rw [zt_add]
      exact kok (zt_B_no h hnb))
    show zm_J N (d + 1) 13 17 (zt_lv p a (zt_s (n + 1))) [.int (zt_b p (zt_s (n + 1)))] G' Q
    have hbn : zt_bad (zt_b p (zt_s (n + 1))) → zt_B p 8 := fun h => hB ⟨n, by omega, h⟩
    generalize zt_b p (zt_s (n + 1)) = c at k48 hbn
    refine zm_J_run zm_T 3 (pc' := if c = 0 then 48 else 24) (lv' := (5, .int c) :: zt_lv p a (zt_s (n + 1))) (st' := []) (G' := G') rfl ?_
    by_cases h0 : c = 0
    · rw [if_pos h0]
      exact k48 (fun h => h.1 h0)
    · rw [if_neg h0]
      refine zm_J_run zm_T 3 (pc' := if c < 33 then 38 else 31) (lv' := (5, .int c) :: zt_lv p a (zt_s (n + 1))) (st' := []) (G' := G') rfl ?_
      by_cases h1 : c < 33
      · rw [if_pos h1]
        exact zm_J_throw zx_13_38 (by omega) (Nat.le_of_ble_eq_true rfl) hr (hbad (hbn ⟨h0, Or.inl h1⟩))
      · rw [if_neg h1]
        refine zm_J_run zm_T 3 (pc' := if c ≤ 126 then 48 else 38) (lv' := (5, .int c) :: zt_lv p a (zt_s (n + 1))) (st' := []) (G' := G') rfl ?_
        by_cases h2 : c ≤ 126
        · rw [if_pos h2]
          refine k48 (fun h => ?_)
          rcases h.2 with h | h
          · exact h1 h
          · exact absurd h2 (Int32.not_le.mpr h)
        · rw [if_neg h2]
          exact zm_J_throw zx_13_38 (by omega) (Nat.le_of_ble_eq_true rfl) hr (hbad (hbn ⟨h0, Or.inr (Int32.not_le.mp h2)⟩))
/-- an array's element is written, at a place that is only known to be within -/
theorem zm_J_ast {N : zm_N} {d mi pc a t qa qb : Nat} {qn : Int} {i : Instr} {lv : zm_L} {r : List Value} {G : zm_H} {Q : zm_O → zm_H → Prop} {x x' : vp_A} {ty : FieldType} {v v' : Value} {j : Int32} (hq : zm_cd mi pc = some (i, qa, qb, qn)) (ha : G.1[a]? = some (.inl (t, x))) (ht : zm_aty[t]? = some ty) (hv : zm_astv i ty v = some v') (hx : zm_aset x j.toNatClampNeg v' = some x') (hno : zm_no ≤ a) (hj : 0 ≤ j ∧ j.toNatClampNeg < x.1) (hs : zm_sto t v G = true)
    (k : zm_J N d mi (pc + zm_len i) lv r (zm_set G a (.inl (t, x'))) Q) : zm_J N d mi pc lv (v :: .int j :: .ref a :: r) G Q := by
  refine zm_hs_ok zm_T (zm_T.1 mi pc _ hq) (st' := r) (G' := zm_set G a (.inl (t, x'))) ?_ k
  unfold zm_hs
  simp only [ha, ht, hv, hx]
  rw [if_pos ⟨hno, hj.1, hj.2, hs⟩]
theorem zt_in {m : Nat} (h : m < 40) : (0 : Int32) ≤ nI m ∧ (nI m).toNatClampNeg < 40 := ⟨nI_pos' (by omega), by rw [nI_clamp (by omega)]; exact h⟩

section ZTY
variable {N : zm_N} {d : Nat} {p : Int64} {xs : Nat → Int32} {th sz : Int32} {g : Nat → Int32} {o : Nat → Int64} {sl : Nat} {Q : zm_O → zm_H → Prop}
abbrev zt_lw (p : Int64) (s : Int32) : zm_L := [(0, .ref 3), (1, .long p), (4, .int s)]
theorem zt_h2 {G : zm_H} {s : Int32} (hs : ¬ s < 0) (k : zm_J N d 13 100 (zt_lw p s) [.int s, .long p] G Q) : zm_J N d 13 92 (zt_lw p s) [] G Q := by
  refine zm_J_run zm_T 2 (pc' := if s < 0 then 138 else 97) (lv' := zt_lw p s) (st' := []) (G' := G) rfl ?_
  rw [if_neg hs]
  exact zm_J_run zm_T 2 (pc' := 100) (lv' := zt_lw p s) (st' := [.int s, .long p]) (G' := G) rfl k
/-- the second loop of the class's add -/
theorem zt_l2 (hsl : sl ≤ 200000) : ∀ n, n ≤ 8 → ∀ (m : Nat) (f : Nat → Int32), m + n ≤ 40 → (∀ f', Q (.inl (some (.int (nI (m + zt_n p n))))) (zp_H xs (nI (m + zt_n p n)) f' th sz g o [] sl)) → zm_J N (d + 1) 13 92 (zt_lw p (zt_s n)) [] (zp_H xs (nI m) f th sz g o [] sl) Q := by
  intro n
  induction n with
  | zero =>
    intro _ m f _ kk
    refine zm_J_run zm_T 2 (pc' := if zt_s 0 < 0 then 138 else 97) (lv' := zt_lw p (zt_s 0)) (st' := []) (G' := zp_H xs (nI m) f th sz g o [] sl) rfl ?_
    rw [if_pos zt_s0]
    refine zm_J_run zm_T 2 (pc' := 142) (lv' := zt_lw p (zt_s 0)) (st' := [.int (nI m)]) (G' := zp_H xs (nI m) f th sz g o [] sl) rfl ?_
    exact zm_J_fin zm_T rfl rfl (kk f)
  | succ n ih =>
    intro hn m f hm kk
    refine zt_h2 (zt_sp n (by omega)) ?_
    refine zm_J_S (av := [.long p, .int (zt_s (n + 1))]) (rest := []) (Q1 := fun z G' => z = .inl (some (.int (zt_b p (zt_s (n + 1))))) ∧ G' = zp_H xs (nI m) f th sz g o [] sl) (zm_T.1 13 100 _ rfl).1 zc_13_100 (Nat.le_of_ble_eq_true rfl) (Nat.le_of_ble_eq_true rfl) (Nat.le_of_succ_le (zp_len (by decide))) (by show sl ≤ 7302232; omega) (zt_byteAt N d p (zt_s (n + 1)) _) ?_ ?_
    rotate_left
    · intro x G' h; exact nomatch h.1
    intro v G' h
    obtain ⟨h1, h2⟩ := h
    subst h2
    cases Sum.inl.inj h1
    have hs := zt_sn n (by omega)
    have hz : m + zt_n p (n + 1) = m + (zt_n p n + (if zt_b p (zt_s (n + 1)) = 0 then 0 else 1)) := rfl
    rw [hz] at kk
    show zm_J N (d + 1) 13 103 (zt_lw p (zt_s (n + 1))) [.int (zt_b p (zt_s (n + 1)))] (zp_H xs (nI m) f th sz g o [] sl) Q
    generalize zt_b p (zt_s (n + 1)) = c at kk
    refine zm_J_run zm_T 3 (pc' := if c = 0 then 132 else 110) (lv' := (5, .int c) :: zt_lw p (zt_s (n + 1))) (st' := []) (G' := zp_H xs (nI m) f th sz g o [] sl) rfl ?_
    by_cases h0 : c = 0
    · rw [if_pos h0] at kk ⊢
      refine zm_J_run zm_T 2 (pc' := 92) (lv' := [(4, .int (zt_s (n + 1) + (-8))), (5, .int c), (0, .ref 3), (1, .long p)]) (st' := []) (G' := zp_H xs (nI m) f th sz g o [] sl) rfl ?_
      refine zm_J_lv (lv' := zt_lw p (zt_s (n + 1) + (-8))) (by simp) ?_
      rw [hs]
      exact ih (by omega) m f (by omega) kk
    · rw [if_neg h0] at kk ⊢
      refine zm_J_run zm_T 6 (pc' := 121) (lv' := (5, .int c) :: zt_lw p (zt_s (n + 1))) (st' := [.int (c.toUInt32 % 65536).toInt32, .int (nI m), .ref 4]) (G' := zp_H xs (nI m) f th sz g o [] sl) rfl ?_
      refine zm_J_ast (i := .castore) (t := 1) (x := (40, .inl f)) rfl rfl rfl rfl rfl (by decide) (zt_in (by omega)) rfl ?_
      refine zm_J_run zm_T 6 (pc' := 132) (lv' := (5, .int c) :: zt_lw p (zt_s (n + 1))) (st' := []) (G' := zp_H xs (nI m + 1) (upd f (nI m).toNatClampNeg (c.toUInt32 % 65536).toInt32.toUInt32.toUInt16.toUInt32.toInt32) th sz g o [] sl) rfl ?_
      refine zm_J_run zm_T 2 (pc' := 92) (lv' := [(4, .int (zt_s (n + 1) + (-8))), (5, .int c), (0, .ref 3), (1, .long p)]) (st' := []) (G' := zp_H xs (nI m + 1) (upd f (nI m).toNatClampNeg (c.toUInt32 % 65536).toInt32.toUInt32.toUInt16.toUInt32.toInt32) th sz g o [] sl) rfl ?_
      refine zm_J_lv (lv' := zt_lw p (zt_s (n + 1) + (-8))) (by simp) ?_
      rw [hs, nI_1]
      refine ih (by omega) (m + 1) _ (by omega) (fun f' => ?_)
      have e : m + 1 + zt_n p n = m + (zt_n p n + 1) := by omega
      rw [e]
      exact kk f'
/-- the class's type on a fresh object -/
theorem zt_class (hsl : sl ≤ 200000) (hd : 9 ≤ d) (f : Nat → Int32) (hbad : zt_B p 8 → Q (.inr (0, 37)) (zp_H xs 0 f th sz g o [.inr (10, [])] (sl + 6))) (hok : ¬ zt_B p 8 → ∀ f', Q (.inl (some (.int (nI (zt_n p 8))))) (zp_H xs (nI (zt_n p 8)) f' th sz g o [] sl)) : zm_J N d 12 0 [(0, .ref 2), (1, .long p)] [] (zp_H xs 0 f th sz g o [] sl) Q := by
  obtain ⟨d, rfl⟩ : ∃ e, d = e + 2 := ⟨d - 2, by omega⟩
  refine zm_J_run zm_T 3 (pc' := 5) (lv' := [(0, .ref 2), (1, .long p)]) (st' := [.long p, .ref 3]) (G' := zp_H xs 0 f th sz g o [] sl) rfl ?_
  have hroom : zm_room (zp_H xs 0 f th sz g o [] sl) 6 = true := by
    unfold zm_room
    rw [Bool.and_eq_true, decide_eq_true_eq, decide_eq_true_eq]
    exact ⟨zp_len (by decide), by show sl + 6 ≤ 7302232; omega⟩
  refine zm_J_V (a := 3) (av := [.long p]) (rest := []) (Q1 := fun z G' => (zt_B p 8 ∧ z = .inr (0, 37) ∧ G' = zp_H xs 0 f th sz g o [.inr (10, [])] (sl + 6)) ∨ (¬ zt_B p 8 ∧ ∃ f', z = .inl (some (.int (nI (zt_n p 8)))) ∧ G' = zp_H xs (nI (zt_n p 8)) f' th sz g o [] sl)) (zm_T.1 12 5 _ rfl).1 zc_12_5 rfl (Nat.le_of_ble_eq_true rfl) (Nat.le_of_ble_eq_true rfl) (Nat.le_of_succ_le (zp_len (by decide))) (by show sl ≤ 7302232; omega) ?_ ?_ ?_
  · show zm_J N (d + 1) 13 0 [(0, .ref 3), (1, .long p)] [] (zp_H xs 0 f th sz g o [] sl) _
    refine zm_J_run zm_T 4 (pc' := 6) (lv' := [(4, .int 56), (3, .int 0), (0, .ref 3), (1, .long p)]) (st' := []) (G' := zp_H xs 0 f th sz g o [] sl) rfl ?_
    refine zm_J_lv (lv' := zt_lv p 0 56) (by simp) ?_
    rw [← zt_s8]
    refine zt_l1 hroom (Nat.le_of_succ_le (zp_len (by decide))) (by show sl ≤ 7302232; omega) (by omega) (fun h => Or.inl ⟨h, rfl, rfl⟩) 8 (Nat.le_refl 8) 0 id (fun hnb => ?_)
    have hm := zt_n_le p 8
    refine zm_J_run zm_T 6 (pc' := if 0 + (0 + nI (zt_n p 8)) ≤ 40 then 88 else 78) (lv' := zt_lv p (0 + nI (zt_n p 8)) (zt_s 0)) (st' := []) (G' := zp_H xs 0 f th sz g o [] sl) rfl ?_
    rw [if_pos (by rw [Int32.zero_add, Int32.zero_add]; exact nI_le (b := 40) (by omega) (by decide))]
    refine zm_J_run zm_T 2 (pc' := 92) (lv' := [(4, .int 56), (0, .ref 3), (1, .long p), (3, .int (0 + nI (zt_n p 8)))]) (st' := []) (G' := zp_H xs 0 f th sz g o [] sl) rfl ?_
    refine zm_J_lv (lv' := zt_lw p 56) (by simp) ?_
    rw [← zt_s8]
    refine zt_l2 hsl 8 (Nat.le_refl 8) 0 f (by omega) (fun f' => ?_)
    rw [Nat.zero_add]
    exact Or.inr ⟨hnb, f', rfl, rfl⟩
  · intro v G' h
    rcases h with ⟨_, h, _⟩ | ⟨hnb, f', h1, rfl⟩
    · cases h
    cases Sum.inl.inj h1
    exact zm_J_fin zm_T rfl rfl (hok hnb f')
  · intro x G' h
    rcases h with ⟨hb, h1, rfl⟩ | ⟨_, _, h, _⟩
    · cases Sum.inr.inj h1
      exact Or.inl ⟨zm_out0 rfl, hbad hb⟩
    · cases h
end ZTY
end
section
/-! TYPE OF THE REFERENCE, AND THE LAW's FIRST CASE -/
theorem zt_between (N : zm_N) (d : Nat) (v lo hi : Int32) (G : zm_H) : zm_J N d 73 0 [(0, .int v), (1, .int lo), (2, .int hi)] [] G (fun z G' => z = .inl (some (.int (if v < lo ∨ hi < v then 0 else 1))) ∧ G' = G) := by
  refine zm_J_run zm_T 3 (pc' := if v < lo then 14 else 5) (lv' := [(0, .int v), (1, .int lo), (2, .int hi)]) (st' := []) (G' := G) rfl ?_
  by_cases h1 : v < lo
  · rw [if_pos h1, if_pos (Or.inl h1)]
    refine zm_J_run zm_T 1 (pc' := 15) (lv' := [(0, .int v), (1, .int lo), (2, .int hi)]) (st' := [.int 0]) (G' := G) rfl ?_
    exact zm_J_fin zm_T rfl rfl ⟨rfl, rfl⟩
  · rw [if_neg h1]
    refine zm_J_run zm_T 3 (pc' := if hi < v then 14 else 10) (lv' := [(0, .int v), (1, .int lo), (2, .int hi)]) (st' := []) (G' := G) rfl ?_
    by_cases h2 : hi < v
    · rw [if_pos h2, if_pos (Or.inr h2)]
      refine zm_J_run zm_T 1 (pc' := 15) (lv' := [(0, .int v), (1, .int lo), (2, .int hi)]) (st' := [.int 0]) (G' := G) rfl ?_
      exact zm_J_fin zm_T rfl rfl ⟨rfl, rfl⟩
    · rw [if_neg h2, if_neg (fun h => h.elim h1 h2)]
      refine zm_J_run zm_T 2 (pc' := 15) (lv' := [(0, .int v), (1, .int lo), (2, .int hi)]) (st' := [.int 1]) (G' := G) rfl ?_
      exact zm_J_fin zm_T rfl rfl ⟨rfl, rfl⟩
abbrev zt_lm (p : Int64) (a fl s : Int32) : zm_L := [(0, .ref 12), (1, .long p), (3, .int a), (4, .int fl), (5, .int s)]
theorem zt_mit {N : zm_N} {d : Nat} {p : Int64} {G : zm_H} {Q : zm_O → zm_H → Prop} {a fl s : Int32} (hs : ¬ s < 0) (hc : G.1.length ≤ zm_C) (hsl : G.2 ≤ zm_S) (k0 : ¬ zt_bad (zt_b p s) → zm_J N (d + 1) 72 9 (zt_lm p (a + (if zt_b p s = 0 then 0 else 1)) fl (s + (-8))) [] G Q) (k1 : zt_bad (zt_b p s) → zm_J N (d + 1) 72 9 (zt_lm p (a + (if zt_b p s = 0 then 0 else 1)) 0 (s + (-8))) [] G Q) : zm_J N (d + 1) 72 9 (zt_lm p a fl s) [] G Q := by
  refine zm_J_run zm_T 2 (pc' := if s < 0 then 59 else 14) (lv' := zt_lm p a fl s) (st' := []) (G' := G) rfl ?_
  rw [if_neg hs]
  refine zm_J_run zm_T 9 (pc' := if zt_b p s = 0 then 33 else 30) (lv' := (6, .int (zt_b p s)) :: zt_lm p a fl s) (st' := []) (G' := G) rfl ?_
  generalize zt_b p s = c at k0 k1 ⊢
  by_cases h0 : c = 0
  · rw [if_pos h0, Int32.add_zero] at k0
    rw [if_pos h0]
    refine zm_J_run zm_T 2 (pc' := if c = 0 then 53 else 38) (lv' := (6, .int c) :: zt_lm p a fl s) (st' := []) (G' := G) rfl ?_
    rw [if_pos h0]
    refine zm_J_run zm_T 2 (pc' := 9) (lv' := [(5, .int (s + (-8))), (6, .int c), (0, .ref 12), (1, .long p), (3, .int a), (4, .int fl)]) (st' := []) (G' := G) rfl ?_
    exact zm_J_lv (by simp) (k0 (fun h => h.1 h0))
  · rw [if_neg h0] at k0 k1 ⊢
    refine zm_J_run zm_T 3 (pc' := if c = 0 then 53 else 38) (lv' := [(3, .int (a + 1)), (6, .int c), (0, .ref 12), (1, .long p), (4, .int fl), (5, .int s)]) (st' := []) (G' := G) rfl ?_
    rw [if_neg h0]
    refine zm_J_run zm_T 3 (pc' := 44) (lv' := [(3, .int (a + 1)), (6, .int c), (0, .ref 12), (1, .long p), (4, .int fl), (5, .int s)]) (st' := [.int 126, .int 33, .int c]) (G' := G) rfl ?_
    refine zm_J_S (av := [.int c, .int 33, .int 126]) (rest := []) (Q1 := fun z G' => z = .inl (some (.int (if c < 33 ∨ 126 < c then 0 else 1))) ∧ G' = G) (zm_T.1 72 44 _ rfl).1 zc_72_44 (Nat.le_of_ble_eq_true rfl) (Nat.le_of_ble_eq_true rfl) hc hsl (zt_between N d c 33 126 G) ?_ ?_
    rotate_left
    · intro x G' h; exact nomatch h.1
    intro v G' h
    obtain ⟨h1, h2⟩ := h
    subst h2
    cases Sum.inl.inj h1
    show zm_J N (d + 1) 72 47 [(3, .int (a + 1)), (6, .int c), (0, .ref 12), (1, .long p), (4, .int fl), (5, .int s)] [.int (if c < 33 ∨ 126 < c then 0 else 1)] G' Q
    by_cases hb : c < 33 ∨ 126 < c
    · rw [if_pos hb]
      refine zm_J_run zm_T 5 (pc' := 9) (lv' := [(5, .int (s + (-8))), (4, .int 0), (3, .int (a + 1)), (6, .int c), (0, .ref 12), (1, .long p)]) (st' := []) (G' := G') rfl ?_
      exact zm_J_lv (by simp) (k1 ⟨h0, hb⟩)
    · rw [if_neg hb]
      refine zm_J_run zm_T 3 (pc' := 9) (lv' := [(5, .int (s + (-8))), (3, .int (a + 1)), (6, .int c), (0, .ref 12), (1, .long p), (4, .int fl)]) (st' := []) (G' := G') rfl ?_
      exact zm_J_lv (by simp) (k0 (fun h => hb h.2))
theorem zt_ml {N : zm_N} {d : Nat} {p : Int64} {G : zm_H} {Q : zm_O → zm_H → Prop} (hc : G.1.length ≤ zm_C) (hsl : G.2 ≤ zm_S) : ∀ n, n ≤ 8 → ∀ a fl, (∀ fl', (zt_B p n → fl' = 0) → (¬ zt_B p n → fl' = fl) → zm_J N (d + 1) 72 59 (zt_lm p (a + nI (zt_n p n)) fl' (zt_s 0)) [] G Q) → zm_J N (d + 1) 72 9 (zt_lm p a fl (zt_s n)) [] G Q := by
  intro n
  induction n with
  | zero =>
    intro _ a fl kk
    refine zm_J_run zm_T 2 (pc' := if zt_s 0 < 0 then 59 else 14) (lv' := zt_lm p a fl (zt_s 0)) (st' := []) (G' := G) rfl ?_
    rw [if_pos zt_s0]
    have h := kk fl (fun h => by obtain ⟨i, h1, -⟩ := h; omega) (fun _ => rfl)
    have e : a + nI (zt_n p 0) = a := by show a + nI 0 = a; rw [nI_0, Int32.add_zero]
    rw [e] at h
    exact h
  | succ n ih =>
    intro hn a fl kk
    have hs := zt_sn n (by omega)
    refine zt_mit (zt_sp n (by omega)) hc hsl (fun hnb => ?_) (fun hb => ?_)
    · rw [hs]
      refine ih (by omega) _ fl (fun fl' h1 h2 => ?_)
      rw [zt_add]
      refine kk fl' (fun h => ?_) (fun h => h2 (fun h3 => h (zt_B_up h3)))
      by_cases h3 : zt_B p n
      · exact h1 h3
      · exact absurd h (zt_B_no h3 hnb)
    · rw [hs]
      refine ih (by omega) _ 0 (fun fl' h1 h2 => ?_)
      rw [zt_add]
      refine kk fl' (fun h => ?_) (fun h => absurd ⟨n, by omega, hb⟩ h)
      by_cases h3 : zt_B p n
      · exact h1 h3
      · exact h2 h3
section ZTM
variable {N : zm_N} {d : Nat} {p : Int64} {xs : Nat → Int32} {ln : Int32} {f : Nat → Int32} {th : Int32} {o : Nat → Int64} {ex : List zm_E} {sl : Nat} {Q : zm_O → zm_H → Prop}
abbrev zt_ln (p : Int64) (s : Int32) : zm_L := [(0, .ref 12), (1, .long p), (5, .int s)]
theorem zt_h3 {G : zm_H} {s : Int32} (hs : ¬ s < 0) (k : zm_J N d 72 109 ((6, .int (zt_b p s)) :: zt_ln p s) [.int (zt_b p s)] G Q) : zm_J N d 72 91 (zt_ln p s) [] G Q := by
  refine zm_J_run zm_T 2 (pc' := if s < 0 then 142 else 96) (lv' := zt_ln p s) (st' := []) (G' := G) rfl ?_
  rw [if_neg hs]
  exact zm_J_run zm_T 8 (pc' := 109) (lv' := (6, .int (zt_b p s)) :: zt_ln p s) (st' := [.int (zt_b p s)]) (G' := G) rfl k
theorem zt_m2 : ∀ n, n ≤ 8 → ∀ (m : Nat) (g : Nat → Int32), m + n ≤ 40 → (∀ g', Q (.inl (some (.int (nI (m + zt_n p n))))) (zp_H xs ln f th (nI (m + zt_n p n)) g' o ex sl)) → zm_J N d 72 91 (zt_ln p (zt_s n)) [] (zp_H xs ln f th (nI m) g o ex sl) Q := by
  intro n
  induction n with
  | zero =>
    intro _ m g _ kk
    refine zm_J_run zm_T 2 (pc' := if zt_s 0 < 0 then 142 else 96) (lv' := zt_ln p (zt_s 0)) (st' := []) (G' := zp_H xs ln f th (nI m) g o ex sl) rfl ?_
    rw [if_pos zt_s0]
    refine zm_J_run zm_T 2 (pc' := 146) (lv' := zt_ln p (zt_s 0)) (st' := [.int (nI m)]) (G' := zp_H xs ln f th (nI m) g o ex sl) rfl ?_
    exact zm_J_fin zm_T rfl rfl (kk g)
  | succ n ih =>
    intro hn m g hm kk
    refine zt_h3 (zt_sp n (by omega)) ?_
    have hs := zt_sn n (by omega)
    have hz : m + zt_n p (n + 1) = m + (zt_n p n + (if zt_b p (zt_s (n + 1)) = 0 then 0 else 1)) := rfl
    rw [hz] at kk
    generalize zt_b p (zt_s (n + 1)) = c at kk
    refine zm_J_run zm_T 1 (pc' := if c = 0 then 112 else 115) (lv' := (6, .int c) :: zt_ln p (zt_s (n + 1))) (st' := []) (G' := zp_H xs ln f th (nI m) g o ex sl) rfl ?_
    by_cases h0 : c = 0
    · rw [if_pos h0] at kk ⊢
      refine zm_J_run zm_T 3 (pc' := 91) (lv' := [(5, .int (zt_s (n + 1) + (-8))), (6, .int c), (0, .ref 12), (1, .long p)]) (st' := []) (G' := zp_H xs ln f th (nI m) g o ex sl) rfl ?_
      refine zm_J_lv (lv' := zt_ln p (zt_s (n + 1) + (-8))) (by simp) ?_
      rw [hs]
      exact ih (by omega) m g (by omega) kk
    · rw [if_neg h0] at kk ⊢
      refine zm_J_run zm_T 5 (pc' := 125) (lv' := (6, .int c) :: zt_ln p (zt_s (n + 1))) (st' := [.int c, .int (nI m), .ref 13]) (G' := zp_H xs ln f th (nI m) g o ex sl) rfl ?_
      refine zm_J_ast (i := .iastore) (t := 0) (x := (40, .inl g)) rfl rfl rfl rfl rfl (by decide) (zt_in (by omega)) rfl ?_
      refine zm_J_run zm_T 6 (pc' := 136) (lv' := (6, .int c) :: zt_ln p (zt_s (n + 1))) (st' := []) (G' := zp_H xs ln f th (nI m + 1) (upd g (nI m).toNatClampNeg c) o ex sl) rfl ?_
      refine zm_J_run zm_T 2 (pc' := 91) (lv' := [(5, .int (zt_s (n + 1) + (-8))), (6, .int c), (0, .ref 12), (1, .long p)]) (st' := []) (G' := zp_H xs ln f th (nI m + 1) (upd g (nI m).toNatClampNeg c) o ex sl) rfl ?_
      refine zm_J_lv (lv' := zt_ln p (zt_s (n + 1) + (-8))) (by simp) ?_
      rw [hs, nI_1]
      refine ih (by omega) (m + 1) _ (by omega) (fun g' => ?_)
      have e : m + 1 + zt_n p n = m + (zt_n p n + 1) := by omega
      rw [e]
      exact kk g'
/-- the reference's type on a fresh object -/
theorem zt_model (hex : ex.length ≤ 1) (hsl : sl ≤ 200000) (hd : 3 ≤ d) (g : Nat → Int32) (hbad : zt_B p 8 → Q (.inl (some (.int 0))) (zp_H xs ln f 1 0 g o ex sl)) (hok : ¬ zt_B p 8 → ∀ g', Q (.inl (some (.int (nI (zt_n p 8))))) (zp_H xs ln f 0 (nI (zt_n p 8)) g' o ex sl)) : zm_J N d 72 0 [(0, .ref 12), (1, .long p)] [] (zp_H xs ln f 0 0 g o ex sl) Q := by
  obtain ⟨d, rfl⟩ : ∃ e, d = e + 1 := ⟨d - 1, by omega⟩
  have hl1 : ∀ th' sz', (zp_H xs ln f th' sz' g o ex sl).1.length ≤ zm_C := fun _ _ => Nat.le_of_succ_le (zp_len (by omega))
  have hsl2 : ∀ th' sz', (zp_H xs ln f th' sz' g o ex sl).2 ≤ zm_S := fun _ _ => by show sl ≤ 7302232; omega
  refine zm_J_run zm_T 6 (pc' := 9) (lv' := [(5, .int 56), (4, .int 1), (3, .int 0), (0, .ref 12), (1, .long p)]) (st' := []) (G' := zp_H xs ln f 0 0 g o ex sl) rfl ?_
  refine zm_J_lv (lv' := zt_lm p 0 1 56) (by simp) ?_
  rw [← zt_s8]
  refine zt_ml (hl1 0 0) (hsl2 0 0) 8 (Nat.le_refl 8) 0 1 (fun fl' h1 h2 => ?_)
  have hm := zt_n_le p 8
  by_cases hB : zt_B p 8
  · rw [h1 hB]
    refine zm_J_run zm_T 2 (pc' := 62) (lv' := zt_lm p (0 + nI (zt_n p 8)) 0 (zt_s 0)) (st' := [.int 0, .ref 12]) (G' := zp_H xs ln f 0 0 g o ex sl) rfl ?_
    refine zm_J_V (a := 12) (av := [.int 0]) (rest := []) (Q1 := fun z G' => z = .inl (some (.int 1)) ∧ G' = zp_H xs ln f 1 0 g o ex sl) (zm_T.1 72 62 _ rfl).1 zc_72_62 rfl (Nat.le_of_ble_eq_true rfl) (Nat.le_of_ble_eq_true rfl) (hl1 0 0) (hsl2 0 0) ?_ ?_ ?_
    · refine zm_J_run zm_T 9 (pc' := 22) (lv' := [(0, .ref 12), (1, .int 0)]) (st' := [.int 1]) (G' := zp_H xs ln f 1 0 g o ex sl) rfl ?_
      exact zm_J_fin zm_T rfl rfl ⟨rfl, rfl⟩
    · intro v G' h
      obtain ⟨h3, rfl⟩ := h
      cases Sum.inl.inj h3
      refine zm_J_run zm_T 2 (pc' := 69) (lv' := zt_lm p (0 + nI (zt_n p 8)) 0 (zt_s 0)) (st' := [.int 0]) (G' := zp_H xs ln f 1 0 g o ex sl) rfl ?_
      exact zm_J_fin zm_T rfl rfl (hbad hB)
    · intro x G' h; exact nomatch h.1
  · rw [h2 hB]
    refine zm_J_run zm_T 2 (pc' := 62) (lv' := zt_lm p (0 + nI (zt_n p 8)) 1 (zt_s 0)) (st' := [.int 1, .ref 12]) (G' := zp_H xs ln f 0 0 g o ex sl) rfl ?_
    refine zm_J_V (a := 12) (av := [.int 1]) (rest := []) (Q1 := fun z G' => z = .inl (some (.int 0)) ∧ G' = zp_H xs ln f 0 0 g o ex sl) (zm_T.1 72 62 _ rfl).1 zc_72_62 rfl (Nat.le_of_ble_eq_true rfl) (Nat.le_of_ble_eq_true rfl) (hl1 0 0) (hsl2 0 0) ?_ ?_ ?_
    · refine zm_J_run zm_T 9 (pc' := 22) (lv' := [(0, .ref 12), (1, .int 1)]) (st' := [.int 0]) (G' := zp_H xs ln f 0 0 g o ex sl) rfl ?_
      exact zm_J_fin zm_T rfl rfl ⟨rfl, rfl⟩
    · intro v G' h
      obtain ⟨h3, rfl⟩ := h
      cases Sum.inl.inj h3
      refine zm_J_run zm_T 7 (pc' := if 0 + (0 + nI (zt_n p 8)) ≤ 40 then 87 else 81) (lv' := zt_lm p (0 + nI (zt_n p 8)) 1 (zt_s 0)) (st' := []) (G' := zp_H xs ln f 0 0 g o ex sl) rfl ?_
      rw [if_pos (by rw [Int32.zero_add, Int32.zero_add]; exact nI_le (b := 40) (by omega) (by decide))]
      refine zm_J_run zm_T 2 (pc' := 91) (lv' := [(5, .int 56), (0, .ref 12), (1, .long p), (3, .int (0 + nI (zt_n p 8))), (4, .int 1)]) (st' := []) (G' := zp_H xs ln f 0 0 g o ex sl) rfl ?_
      refine zm_J_lv (lv' := zt_ln p 56) (by simp) ?_
      rw [← zt_s8]
      refine zt_m2 8 (Nat.le_refl 8) 0 g (by omega) (fun g' => ?_)
      rw [Nat.zero_add]
      exact hok hB g'
    · intro x G' h; exact nomatch h.1
end ZTM
theorem zt_thrown (N : zm_N) (d : Nat) {xs : Nat → Int32} {ln : Int32} {f : Nat → Int32} {th sz : Int32} {g : Nat → Int32} {o : Nat → Int64} {ex : List zm_E} {sl : Nat} : zm_J N d 71 0 [(0, .ref 12)] [] (zp_H xs ln f th sz g o ex sl) (fun z G' => z = .inl (some (.int th)) ∧ G' = zp_H xs ln f th sz g o ex sl) := by
  refine zm_J_run zm_T 2 (pc' := 4) (lv' := [(0, .ref 12)]) (st' := [.int th]) (G' := zp_H xs ln f th sz g o ex sl) rfl ?_
  exact zm_J_fin zm_T rfl rfl ⟨rfl, rfl⟩
theorem zt_cmp (x : Int64) : lg_cmp x x = 0 := by
  unfold lg_cmp
  simp
/-- what the law is asked at its end -/
def zl_Q (z : zm_O) (G : zm_H) : Prop := z = .inl (some (.int 1)) ∧ G.1.length ≤ zm_C ∧ G.2 ≤ zm_S
def zl_P (xs : Nat → Int32) : Int64 := ((xs 1).toInt64 <<< ((32 : Int32).toInt64 &&& 63)) ||| ((xs 2).toInt64 &&& 4294967295)

set_option maxRecDepth 100000 in
set_option maxHeartbeats 4000000 in
theorem zl_op0 {xs : Nat → Int32} (N : zm_N) (d : Nat) (hd : 12 ≤ d) : zm_J N d 0 39 [(4, .int 0), (3, .ref 36), (2, .ref 12), (1, .ref 2), (0, .ref 0)] [.int 0] (zp_H xs 0 (fun _ => 0) 0 0 (fun _ => 0) (fun _ => 0) [] 156591) zl_Q := by
  obtain ⟨d, rfl⟩ : ∃ e, d = e + 1 := ⟨d - 1, by omega⟩
  refine zm_J_run zm_T 20 (pc' := 108) (lv' := [(4, .int 0), (3, .ref 36), (2, .ref 12), (1, .ref 2), (0, .ref 0)]) (st' := [.ref 36, .long (zl_P xs), .ref 2]) (G' := zp_H xs 0 (fun _ => 0) 0 0 (fun _ => 0) (fun _ => 0) [] 156591) rfl ?_
  refine zm_J_S (av := [.ref 2, .long (zl_P xs), .ref 36]) (rest := []) (Q1 := fun z G' => (zt_B (zl_P xs) 8 ∧ z = .inl (some (.int 1)) ∧ G' = zp_H xs 0 (fun _ => 0) 0 0 (fun _ => 0) (fun _ => 0) [.inr (10, [])] (156591 + 6)) ∨ (¬ zt_B (zl_P xs) 8 ∧ ∃ f', z = .inl (some (.int 0)) ∧ G' = zp_H xs (nI (zt_n (zl_P xs) 8)) f' 0 0 (fun _ => 0) (vp_updL (fun _ => 0) 0 (nI (zt_n (zl_P xs) 8)).toInt64) [] 156591)) (zm_T.1 0 108 _ rfl).1 zc_0_108 (Nat.le_of_ble_eq_true rfl) (Nat.le_of_ble_eq_true rfl) (Nat.le_of_succ_le (zp_len (by decide))) (Nat.le_of_ble_eq_true rfl) ?_ ?_ ?_
  · generalize zl_P xs = p
    obtain ⟨d, rfl⟩ : ∃ e, d = e + 1 := ⟨d - 1, by omega⟩
    refine zm_J_run zm_T 4 (pc' := 4) (lv' := [(0, .ref 2), (1, .long p), (3, .ref 36)]) (st' := [.long p, .ref 2, .int 0, .ref 36]) (G' := zp_H xs 0 (fun _ => 0) 0 0 (fun _ => 0) (fun _ => 0) [] 156591) rfl ?_
    refine zm_J_V (a := 2) (av := [.long p]) (rest := [.int 0, .ref 36]) (Q1 := fun z G' => (zt_B p 8 ∧ z = .inr (0, 37) ∧ G' = zp_H xs 0 (fun _ => 0) 0 0 (fun _ => 0) (fun _ => 0) [.inr (10, [])] (156591 + 6)) ∨ (¬ zt_B p 8 ∧ ∃ f', z = .inl (some (.int (nI (zt_n p 8)))) ∧ G' = zp_H xs (nI (zt_n p 8)) f' 0 0 (fun _ => 0) (fun _ => 0) [] 156591)) (zm_T.1 11 4 _ rfl).1 zc_11_4 rfl (Nat.le_of_ble_eq_true rfl) (Nat.le_of_ble_eq_true rfl) (Nat.le_of_succ_le (zp_len (by decide))) (Nat.le_of_ble_eq_true rfl) (zt_class (by decide) (by omega) _ (fun h => Or.inl ⟨h, rfl, rfl⟩) (fun h f' => Or.inr ⟨h, f', rfl, rfl⟩)) ?_ ?_
    · intro v G' h
      rcases h with ⟨_, h, _⟩ | ⟨hnb, f', h1, rfl⟩
      · cases h
      cases Sum.inl.inj h1
      refine zm_J_run zm_T 4 (pc' := 21) (lv' := [(0, .ref 2), (1, .long p), (3, .ref 36)]) (st' := [.int 0]) (G' := zp_H xs (nI (zt_n p 8)) f' 0 0 (fun _ => 0) (vp_updL (fun _ => 0) 0 (nI (zt_n p 8)).toInt64) [] 156591) rfl ?_
      exact zm_J_fin zm_T rfl rfl (Or.inr ⟨hnb, f', rfl, rfl⟩)
    · intro x G' h
      rcases h with ⟨hb, h1, rfl⟩ | ⟨_, _, h, _⟩
      · cases Sum.inr.inj h1
        refine Or.inr ⟨12, zt_11_0, ?_⟩
        refine zm_J_run zm_T 2 (pc' := 15) (lv' := [(4, .ref 37), (0, .ref 2), (1, .long p), (3, .ref 36)]) (st' := [.int 1]) (G' := zp_H xs 0 (fun _ => 0) 0 0 (fun _ => 0) (fun _ => 0) [.inr (10, [])] (156591 + 6)) rfl ?_
        exact zm_J_fin zm_T rfl rfl (Or.inl ⟨hb, rfl, rfl⟩)
      · cases h
  · intro v G' h
    rcases h with ⟨hb, h1, rfl⟩ | ⟨hnb, f', h1, rfl⟩
    · cases Sum.inl.inj h1
      refine zm_J_run zm_T 19 (pc' := 136) (lv' := (5, .int 1) :: [(4, .int 0), (3, .ref 36), (2, .ref 12), (1, .ref 2), (0, .ref 0)]) (st' := [.long (zl_P xs), .ref 12]) (G' := zp_H xs 0 (fun _ => 0) 0 0 (fun _ => 0) (fun _ => 0) [.inr (10, [])] (156591 + 6)) rfl ?_
      refine zm_J_V (a := 12) (av := [.long (zl_P xs)]) (rest := []) (Q1 := fun z G' => z = .inl (some (.int 0)) ∧ G' = zp_H xs 0 (fun _ => 0) 1 0 (fun _ => 0) (fun _ => 0) [.inr (10, [])] (156591 + 6)) (zm_T.1 0 136 _ rfl).1 zc_0_136 rfl (Nat.le_of_ble_eq_true rfl) (Nat.le_of_ble_eq_true rfl) (Nat.le_of_succ_le (zp_len (by decide))) (Nat.le_of_ble_eq_true rfl) (zt_model (by decide) (by decide) (by omega) _ (fun _ => ⟨rfl, rfl⟩) (fun h => absurd hb h)) ?_ ?_
      rotate_left
      · intro x G' h; exact nomatch h.1
      intro v G' h
      obtain ⟨h2, rfl⟩ := h
      cases Sum.inl.inj h2
      refine zm_J_run zm_T 2 (pc' := 142) (lv' := (6, .int 0) :: (5, .int 1) :: [(4, .int 0), (3, .ref 36), (2, .ref 12), (1, .ref 2), (0, .ref 0)]) (st' := [.ref 12]) (G' := zp_H xs 0 (fun _ => 0) 1 0 (fun _ => 0) (fun _ => 0) [.inr (10, [])] (156591 + 6)) rfl ?_
      refine zm_J_V (a := 12) (av := []) (rest := []) (Q1 := fun z G' => z = .inl (some (.int 1)) ∧ G' = zp_H xs 0 (fun _ => 0) 1 0 (fun _ => 0) (fun _ => 0) [.inr (10, [])] (156591 + 6)) (zm_T.1 0 142 _ rfl).1 zc_0_142 rfl (Nat.le_of_ble_eq_true rfl) (Nat.le_of_ble_eq_true rfl) (Nat.le_of_succ_le (zp_len (by decide))) (Nat.le_of_ble_eq_true rfl) (zt_thrown N d) ?_ ?_
      rotate_left
      · intro x G' h; exact nomatch h.1
      intro v G' h
      obtain ⟨h3, rfl⟩ := h
      cases Sum.inl.inj h3
      refine zm_J_run zm_T 5 (pc' := 453) (lv' := (6, .int 0) :: (5, .int 1) :: [(4, .int 0), (3, .ref 36), (2, .ref 12), (1, .ref 2), (0, .ref 0)]) (st' := []) (G' := zp_H xs 0 (fun _ => 0) 1 0 (fun _ => 0) (fun _ => 0) [.inr (10, [])] (156591 + 6)) rfl ?_
      refine zm_J_run zm_T 2 (pc' := 23) (lv' := [(4, .int 3), (6, .int 0), (5, .int 1), (3, .ref 36), (2, .ref 12), (1, .ref 2), (0, .ref 0)]) (st' := []) (G' := zp_H xs 0 (fun _ => 0) 1 0 (fun _ => 0) (fun _ => 0) [.inr (10, [])] (156591 + 6)) rfl ?_
      refine zm_J_run zm_T 5 (pc' := 29) (lv' := [(4, .int 3), (6, .int 0), (5, .int 1), (3, .ref 36), (2, .ref 12), (1, .ref 2), (0, .ref 0)]) (st' := [.int (3 - 3), .int 3]) (G' := zp_H xs 0 (fun _ => 0) 1 0 (fun _ => 0) (fun _ => 0) [.inr (10, [])] (156591 + 6)) rfl ?_
      refine zm_J_run zm_T 1 (pc' := if (3 - 3 : Int32) < 3 then 459 else 32) (lv' := [(4, .int 3), (6, .int 0), (5, .int 1), (3, .ref 36), (2, .ref 12), (1, .ref 2), (0, .ref 0)]) (st' := []) (G' := zp_H xs 0 (fun _ => 0) 1 0 (fun _ => 0) (fun _ => 0) [.inr (10, [])] (156591 + 6)) rfl ?_
      rw [if_pos (show (3 - 3 : Int32) < 3 by decide +kernel)]
      refine zm_J_run zm_T 1 (pc' := 460) (lv' := [(4, .int 3), (6, .int 0), (5, .int 1), (3, .ref 36), (2, .ref 12), (1, .ref 2), (0, .ref 0)]) (st' := [.int 1]) (G' := zp_H xs 0 (fun _ => 0) 1 0 (fun _ => 0) (fun _ => 0) [.inr (10, [])] (156591 + 6)) rfl ?_
      exact zm_J_fin zm_T rfl rfl ⟨rfl, Nat.le_of_succ_le (zp_len (by decide)), Nat.le_of_ble_eq_true rfl⟩
    · cases Sum.inl.inj h1
      refine zm_J_run zm_T 19 (pc' := 136) (lv' := (5, .int 0) :: [(4, .int 0), (3, .ref 36), (2, .ref 12), (1, .ref 2), (0, .ref 0)]) (st' := [.long (zl_P xs), .ref 12]) (G' := zp_H xs (nI (zt_n (zl_P xs) 8)) f' 0 0 (fun _ => 0) (vp_updL (fun _ => 0) 0 (nI (zt_n (zl_P xs) 8)).toInt64) [] 156591) rfl ?_
      refine zm_J_V (a := 12) (av := [.long (zl_P xs)]) (rest := []) (Q1 := fun z G' => ∃ g', z = .inl (some (.int (nI (zt_n (zl_P xs) 8)))) ∧ G' = zp_H xs (nI (zt_n (zl_P xs) 8)) f' 0 (nI (zt_n (zl_P xs) 8)) g' (vp_updL (fun _ => 0) 0 (nI (zt_n (zl_P xs) 8)).toInt64) [] 156591) (zm_T.1 0 136 _ rfl).1 zc_0_136 rfl (Nat.le_of_ble_eq_true rfl) (Nat.le_of_ble_eq_true rfl) (Nat.le_of_succ_le (zp_len (by decide))) (Nat.le_of_ble_eq_true rfl) (zt_model (by decide) (by decide) (by omega) _ (fun h => absurd h hnb) (fun _ g' => ⟨g', rfl, rfl⟩)) ?_ ?_
      rotate_left
      · intro x G' h; obtain ⟨_, h, _⟩ := h; cases h
      intro v G' h
      obtain ⟨g', h2, rfl⟩ := h
      cases Sum.inl.inj h2
      generalize nI (zt_n (zl_P xs) 8) = w
      refine zm_J_run zm_T 2 (pc' := 142) (lv' := (6, .int w) :: (5, .int 0) :: [(4, .int 0), (3, .ref 36), (2, .ref 12), (1, .ref 2), (0, .ref 0)]) (st' := [.ref 12]) (G' := zp_H xs w f' 0 w g' (vp_updL (fun _ => 0) 0 w.toInt64) [] 156591) rfl ?_
      refine zm_J_V (a := 12) (av := []) (rest := []) (Q1 := fun z G' => z = .inl (some (.int 0)) ∧ G' = zp_H xs w f' 0 w g' (vp_updL (fun _ => 0) 0 w.toInt64) [] 156591) (zm_T.1 0 142 _ rfl).1 zc_0_142 rfl (Nat.le_of_ble_eq_true rfl) (Nat.le_of_ble_eq_true rfl) (Nat.le_of_succ_le (zp_len (by decide))) (Nat.le_of_ble_eq_true rfl) (zt_thrown N d) ?_ ?_
      rotate_left
      · intro x G' h; exact nomatch h.1
      intro v G' h
      obtain ⟨h3, rfl⟩ := h
      cases Sum.inl.inj h3
      refine zm_J_run zm_T 11 (pc' := if lg_cmp w.toInt64 w.toInt64 = 0 then 169 else 167) (lv' := (6, .int w) :: (5, .int 0) :: [(4, .int 0), (3, .ref 36), (2, .ref 12), (1, .ref 2), (0, .ref 0)]) (st' := []) (G' := zp_H xs w f' 0 w g' (vp_updL (fun _ => 0) 0 w.toInt64) [] 156591) rfl ?_
      rw [if_pos (zt_cmp _)]
      refine zm_J_run zm_T 3 (pc' := 23) (lv' := [(4, .int 3), (6, .int w), (5, .int 0), (3, .ref 36), (2, .ref 12), (1, .ref 2), (0, .ref 0)]) (st' := []) (G' := zp_H xs w f' 0 w g' (vp_updL (fun _ => 0) 0 w.toInt64) [] 156591) rfl ?_
      refine zm_J_run zm_T 5 (pc' := 29) (lv' := [(4, .int 3), (6, .int w), (5, .int 0), (3, .ref 36), (2, .ref 12), (1, .ref 2), (0, .ref 0)]) (st' := [.int (3 - 3), .int 3]) (G' := zp_H xs w f' 0 w g' (vp_updL (fun _ => 0) 0 w.toInt64) [] 156591) rfl ?_
      refine zm_J_run zm_T 1 (pc' := if (3 - 3 : Int32) < 3 then 459 else 32) (lv' := [(4, .int 3), (6, .int w), (5, .int 0), (3, .ref 36), (2, .ref 12), (1, .ref 2), (0, .ref 0)]) (st' := []) (G' := zp_H xs w f' 0 w g' (vp_updL (fun _ => 0) 0 w.toInt64) [] 156591) rfl ?_
      rw [if_pos (show (3 - 3 : Int32) < 3 by decide +kernel)]
      refine zm_J_run zm_T 1 (pc' := 460) (lv' := [(4, .int 3), (6, .int w), (5, .int 0), (3, .ref 36), (2, .ref 12), (1, .ref 2), (0, .ref 0)]) (st' := [.int 1]) (G' := zp_H xs w f' 0 w g' (vp_updL (fun _ => 0) 0 w.toInt64) [] 156591) rfl ?_
      exact zm_J_fin zm_T rfl rfl ⟨rfl, Nat.le_of_succ_le (zp_len (by decide)), Nat.le_of_ble_eq_true rfl⟩
  · intro x G' h
    rcases h with ⟨_, h, _⟩ | ⟨_, _, h, _⟩ <;> cases h
end
section
/-! THE CALLS WITHOUT A NUMBER, ON FRESH OBJECTS, laid by wip/gen/p1law.py -/
def zh_0 (xs : Nat → Int32) : zm_H := ([.inl (0, 3, .inl xs), .inr (99, []), .inr (0, [.ref 3, .ref 6, .ref 11, .null, .int 0, .int 0, .int 0, .int 0, .int 0]), .inr (1, [.int 0, .int (-1), .ref 4, .ref 5, .int 0, .int 0, .int 0, .int 0]), .inl (1, 40, .inl fun _ => 0), .inl (1, 4, .inl fun _ => 0), .inr (2, [.ref 7, .ref 8, .ref 9, .ref 10, .int 0, .int 0, .int 0]), .inr (3, [.int 1, .int 0, .null, .null, .null]), .inr (4, [.ref 1, .int 0, .int 0]), .inr (4, [.ref 1, .int 0, .int 0]), .inr (4, [.ref 1, .int 0, .int 0]), .inl (4, 6, .inr (.inr (.inr (.inr fun _ => none)))), .inr (5, [.ref 13, .ref 14, .ref 15, .ref 16, .ref 17, .ref 18, .ref 19, .ref 20, .int 0, .int (-1), .int 0, .int 0, .int 0, .ref 21, .ref 22, .ref 23, .ref 24, .ref 25, .ref 26, .ref 27, .ref 28, .ref 29, .ref 30, .int 0, .int 0, .int 0, .ref 31, .ref 32, .ref 33, .ref 34, .ref 35, .int 0, .int 0, .int 0, .int 0, .int 0, .int 0, .int 0, .int 0, .int 0, .int 0, .int 0, .int 0, .int 0]), .inl (0, 40, .inl fun _ => 0), .inl (0, 21200, .inl fun _ => 0), .inl (0, 240, .inl fun _ => 0), .inl (0, 6, .inl fun _ => 0), .inl (0, 24, .inl fun _ => 0), .inl (0, 6, .inl fun _ => 0), .inl (0, 16, .inl fun _ => 0), .inl (3, 6, .inl fun _ => 0), .inl (0, 16400, .inl fun _ => 0), .inl (0, 16400, .inl fun _ => 0), .inl (0, 16400, .inl fun _ => 0), .inl (0, 16400, .inl fun _ => 0), .inl (0, 16400, .inl fun _ => 0), .inl (0, 16400, .inl fun _ => 0), .inl (0, 1700, .inl fun _ => 0), .inl (0, 1700, .inl fun _ => 0), .inl (0, 16400, .inl fun _ => 0), .inl (0, 16400, .inl fun _ => 0), .inl (0, 64, .inl fun _ => 0), .inl (0, 64, .inl fun _ => 0), .inl (0, 64, .inl fun _ => 0), .inl (0, 64, .inl fun _ => 0), .inl (0, 64, .inl fun _ => 0), .inl (2, 1, .inr (.inl fun _ => 0))], 156591)
set_option maxHeartbeats 40000000 in
set_option maxRecDepth 100000 in
/-- NeedMachine$Text.beginReading -/
theorem zo1_101 {xs : Nat → Int32} (N : zm_N) (d : Nat) (hd : 1 ≤ d) : zm_J N d 18 0 [(0, .ref 3)] [] (zh_0 xs) (fun z G => z = .inl none ∧ G = (zh_0 xs)) := by
  obtain ⟨d, rfl⟩ : ∃ e, d = e + 1 := ⟨d - 1, by omega⟩
  refine zm_J_run zm_T 8 (pc' := 14) (lv' := [(0, .ref 3)]) (st' := [.ref 3]) (G' := (zh_0 xs)) rfl ?_
  refine zm_J_run zm_T 5 (pc' := 23) (lv' := [(0, .ref 3)]) (st' := []) (G' := (zh_0 xs)) rfl ?_
  exact zm_J_fin zm_T rfl rfl ⟨rfl, rfl⟩

def zh_1 (xs : Nat → Int32) : zm_H := ([.inl (0, 3, .inl xs), .inr (99, []), .inr (0, [.ref 3, .ref 6, .ref 11, .null, .int 0, .int 0, .int 0, .int 0, .int 0]), .inr (1, [.int 0, .int 0, .ref 4, .ref 5, .int 0, .int 0, .int 0, .int 0]), .inl (1, 40, .inl fun _ => 0), .inl (1, 4, .inl fun _ => 0), .inr (2, [.ref 7, .ref 8, .ref 9, .ref 10, .int 0, .int 0, .int 0]), .inr (3, [.int 1, .int 0, .null, .null, .null]), .inr (4, [.ref 1, .int 0, .int 0]), .inr (4, [.ref 1, .int 0, .int 0]), .inr (4, [.ref 1, .int 0, .int 0]), .inl (4, 6, .inr (.inr (.inr (.inr fun _ => none)))), .inr (5, [.ref 13, .ref 14, .ref 15, .ref 16, .ref 17, .ref 18, .ref 19, .ref 20, .int 0, .int (-1), .int 0, .int 0, .int 0, .ref 21, .ref 22, .ref 23, .ref 24, .ref 25, .ref 26, .ref 27, .ref 28, .ref 29, .ref 30, .int 0, .int 0, .int 0, .ref 31, .ref 32, .ref 33, .ref 34, .ref 35, .int 0, .int 0, .int 0, .int 0, .int 0, .int 0, .int 0, .int 0, .int 0, .int 0, .int 0, .int 0, .int 0]), .inl (0, 40, .inl fun _ => 0), .inl (0, 21200, .inl fun _ => 0), .inl (0, 240, .inl fun _ => 0), .inl (0, 6, .inl fun _ => 0), .inl (0, 24, .inl fun _ => 0), .inl (0, 6, .inl fun _ => 0), .inl (0, 16, .inl fun _ => 0), .inl (3, 6, .inl fun _ => 0), .inl (0, 16400, .inl fun _ => 0), .inl (0, 16400, .inl fun _ => 0), .inl (0, 16400, .inl fun _ => 0), .inl (0, 16400, .inl fun _ => 0), .inl (0, 16400, .inl fun _ => 0), .inl (0, 16400, .inl fun _ => 0), .inl (0, 1700, .inl fun _ => 0), .inl (0, 1700, .inl fun _ => 0), .inl (0, 16400, .inl fun _ => 0), .inl (0, 16400, .inl fun _ => 0), .inl (0, 64, .inl fun _ => 0), .inl (0, 64, .inl fun _ => 0), .inl (0, 64, .inl fun _ => 0), .inl (0, 64, .inl fun _ => 0), .inl (0, 64, .inl fun _ => 0), .inl (2, 1, .inr (.inl fun _ => 0))], 156591)
def zh_2 (xs : Nat → Int32) : zm_H := ([.inl (0, 3, .inl xs), .inr (99, []), .inr (0, [.ref 3, .ref 6, .ref 11, .null, .int 0, .int 0, .int 0, .int 0, .int 0]), .inr (1, [.int 0, .int 0, .ref 4, .ref 5, .int 0, .int 0, .int 0, .int 0]), .inl (1, 40, .inl fun _ => 0), .inl (1, 4, .inl fun _ => 0), .inr (2, [.ref 7, .ref 8, .ref 9, .ref 10, .int 0, .int 0, .int 0]), .inr (3, [.int 1, .int 0, .null, .null, .null]), .inr (4, [.ref 1, .int 0, .int 0]), .inr (4, [.ref 1, .int 0, .int 0]), .inr (4, [.ref 1, .int 0, .int 0]), .inl (4, 6, .inr (.inr (.inr (.inr fun _ => none)))), .inr (5, [.ref 13, .ref 14, .ref 15, .ref 16, .ref 17, .ref 18, .ref 19, .ref 20, .int 0, .int (-1), .int 0, .int 0, .int 0, .ref 21, .ref 22, .ref 23, .ref 24, .ref 25, .ref 26, .ref 27, .ref 28, .ref 29, .ref 30, .int 0, .int 0, .int 0, .ref 31, .ref 32, .ref 33, .ref 34, .ref 35, .int 0, .int 0, .int 0, .int 0, .int 0, .int 0, .int 0, .int 0, .int 0, .int 0, .int 0, .int 0, .int 0]), .inl (0, 40, .inl fun _ => 0), .inl (0, 21200, .inl fun _ => 0), .inl (0, 240, .inl fun _ => 0), .inl (0, 6, .inl fun _ => 0), .inl (0, 24, .inl fun _ => 0), .inl (0, 6, .inl fun _ => 0), .inl (0, 16, .inl fun _ => 0), .inl (3, 6, .inl fun _ => 0), .inl (0, 16400, .inl fun _ => 0), .inl (0, 16400, .inl fun _ => 0), .inl (0, 16400, .inl fun _ => 0), .inl (0, 16400, .inl fun _ => 0), .inl (0, 16400, .inl fun _ => 0), .inl (0, 16400, .inl fun _ => 0), .inl (0, 1700, .inl fun _ => 0), .inl (0, 1700, .inl fun _ => 0), .inl (0, 16400, .inl fun _ => 0), .inl (0, 16400, .inl fun _ => 0), .inl (0, 64, .inl fun _ => 0), .inl (0, 64, .inl fun _ => 0), .inl (0, 64, .inl fun _ => 0), .inl (0, 64, .inl fun _ => 0), .inl (0, 64, .inl fun _ => 0), .inl (2, 1, .inr (.inl fun _ => 0)), .inr (10, [])], 156597)
set_option maxHeartbeats 40000000 in
set_option maxRecDepth 100000 in
/-- NeedMachine$Text.refuseUnless -/
theorem zo1_102 {xs : Nat → Int32} (N : zm_N) (d : Nat) (hd : 7 ≤ d) : zm_J N d 20 0 [(0, .ref 3), (1, .int 0)] [] (zh_0 xs) (fun z G => z = .inr (0, 37) ∧ G = (zh_2 xs)) := by
  obtain ⟨d, rfl⟩ : ∃ e, d = e + 1 := ⟨d - 1, by omega⟩
  refine zm_J_run zm_T 6 (pc' := 12) (lv' := [(0, .ref 3), (1, .int 0)]) (st' := []) (G' := (zh_1 xs)) rfl ?_
  exact zm_J_throw zx_20_12 (by omega) (Nat.le_of_ble_eq_true rfl) rfl ⟨rfl, rfl⟩

set_option maxHeartbeats 40000000 in
set_option maxRecDepth 100000 in
/-- NeedMachine$Text.readDefinition -/
theorem zo1_103 {xs : Nat → Int32} (N : zm_N) (d : Nat) (hd : 8 ≤ d) : zm_J N d 17 0 [(0, .ref 3)] [] (zh_0 xs) (fun z G => z = .inr (0, 37) ∧ G = (zh_2 xs)) := by
  obtain ⟨d, rfl⟩ : ∃ e, d = e + 1 := ⟨d - 1, by omega⟩
  refine zm_J_run zm_T 1 (pc' := 1) (lv' := [(0, .ref 3)]) (st' := [.ref 3]) (G' := (zh_0 xs)) rfl ?_
  refine zm_J_V (a := 3) (av := []) (rest := []) (Q1 := fun z G => z = .inl none ∧ G = (zh_0 xs)) (zm_T.1 17 1 _ rfl).1 zc_17_1 rfl (Nat.le_of_ble_eq_true rfl) (Nat.le_of_ble_eq_true rfl) (Nat.le_of_ble_eq_true rfl) (Nat.le_of_ble_eq_true rfl) (zo1_101 N _ (by omega)) ?_ ?_
  rotate_left
  · intro x G' h; exact nomatch h.1
  intro v G' h
  obtain ⟨h1, rfl⟩ := h
  cases Sum.inl.inj h1
  show zm_J N _ 17 4 [(0, .ref 3)] [] (zh_0 xs) _
  refine zm_J_run zm_T 5 (pc' := 13) (lv' := [(0, .ref 3)]) (st' := [.int 0, .int 0, .ref 3]) (G' := (zh_0 xs)) rfl ?_
  refine zm_J_run zm_T 1 (pc' := if (0 : Int32) ≤ 0 then 35 else 16) (lv' := [(0, .ref 3)]) (st' := [.ref 3]) (G' := (zh_0 xs)) rfl ?_
  rw [if_pos (show (0 : Int32) ≤ 0 by decide +kernel)]
  refine zm_J_run zm_T 1 (pc' := 36) (lv' := [(0, .ref 3)]) (st' := [.int 0, .ref 3]) (G' := (zh_0 xs)) rfl ?_
  refine zm_J_V (a := 3) (av := [.int 0]) (rest := []) (Q1 := fun z G => z = .inr (0, 37) ∧ G = (zh_2 xs)) (zm_T.1 17 36 _ rfl).1 zc_17_36 rfl (Nat.le_of_ble_eq_true rfl) (Nat.le_of_ble_eq_true rfl) (Nat.le_of_ble_eq_true rfl) (Nat.le_of_ble_eq_true rfl) (zo1_102 N _ (by omega)) ?_ ?_
  · intro v G' h; exact nomatch h.1
  intro x G' h
  obtain ⟨h1, rfl⟩ := h
  cases Sum.inr.inj h1
  exact Or.inl ⟨zm_out0 rfl, rfl, rfl⟩

set_option maxHeartbeats 40000000 in
set_option maxRecDepth 100000 in
/-- NeedMachine.define -/
theorem zo1_104 {xs : Nat → Int32} (N : zm_N) (d : Nat) (hd : 9 ≤ d) : zm_J N d 16 0 [(0, .ref 2)] [] (zh_0 xs) (fun z G => z = .inr (0, 37) ∧ G = (zh_2 xs)) := by
  obtain ⟨d, rfl⟩ : ∃ e, d = e + 1 := ⟨d - 1, by omega⟩
  refine zm_J_run zm_T 2 (pc' := 4) (lv' := [(0, .ref 2)]) (st' := [.ref 3]) (G' := (zh_0 xs)) rfl ?_
  refine zm_J_V (a := 3) (av := []) (rest := []) (Q1 := fun z G => z = .inr (0, 37) ∧ G = (zh_2 xs)) (zm_T.1 16 4 _ rfl).1 zc_16_4 rfl (Nat.le_of_ble_eq_true rfl) (Nat.le_of_ble_eq_true rfl) (Nat.le_of_ble_eq_true rfl) (Nat.le_of_ble_eq_true rfl) (zo1_103 N _ (by omega)) ?_ ?_
  · intro v G' h; exact nomatch h.1
  intro x G' h
  obtain ⟨h1, rfl⟩ := h
  cases Sum.inr.inj h1
  exact Or.inl ⟨zm_out0 rfl, rfl, rfl⟩

set_option maxHeartbeats 40000000 in
set_option maxRecDepth 100000 in
/-- NeedMachineLaw.define -/
theorem zo1_105 {xs : Nat → Int32} (N : zm_N) (d : Nat) (hd : 10 ≤ d) : zm_J N d 15 0 [(0, .ref 2), (1, .ref 36)] [] (zh_0 xs) (fun z G => z = .inl (some (.int 1)) ∧ G = (zh_2 xs)) := by
  obtain ⟨d, rfl⟩ : ∃ e, d = e + 1 := ⟨d - 1, by omega⟩
  refine zm_J_run zm_T 3 (pc' := 3) (lv' := [(0, .ref 2), (1, .ref 36)]) (st' := [.ref 2, .int 0, .ref 36]) (G' := (zh_0 xs)) rfl ?_
  refine zm_J_V (a := 2) (av := []) (rest := [.int 0, .ref 36]) (Q1 := fun z G => z = .inr (0, 37) ∧ G = (zh_2 xs)) (zm_T.1 15 3 _ rfl).1 zc_15_3 rfl (Nat.le_of_ble_eq_true rfl) (Nat.le_of_ble_eq_true rfl) (Nat.le_of_ble_eq_true rfl) (Nat.le_of_ble_eq_true rfl) (zo1_104 N _ (by omega)) ?_ ?_
  · intro v G' h; exact nomatch h.1
  intro x G' h
  obtain ⟨h1, rfl⟩ := h
  cases Sum.inr.inj h1
  refine Or.inr ⟨11, zt_15_0, ?_⟩
  show zm_J N _ 15 11 [(0, .ref 2), (1, .ref 36)] [.ref 37] (zh_2 xs) _
  refine zm_J_run zm_T 2 (pc' := 13) (lv' := [(2, .ref 37), (0, .ref 2), (1, .ref 36)]) (st' := [.int 1]) (G' := (zh_2 xs)) rfl ?_
  exact zm_J_fin zm_T rfl rfl ⟨rfl, rfl⟩

def zh_3 (xs : Nat → Int32) : zm_H := ([.inl (0, 3, .inl xs), .inr (99, []), .inr (0, [.ref 3, .ref 6, .ref 11, .null, .int 0, .int 0, .int 0, .int 0, .int 0]), .inr (1, [.int 0, .int 0, .ref 4, .ref 5, .int 0, .int 0, .int 0, .int 0]), .inl (1, 40, .inl fun _ => 0), .inl (1, 4, .inl fun _ => 0), .inr (2, [.ref 7, .ref 8, .ref 9, .ref 10, .int 0, .int 0, .int 0]), .inr (3, [.int 1, .int 0, .null, .null, .null]), .inr (4, [.ref 1, .int 0, .int 0]), .inr (4, [.ref 1, .int 0, .int 0]), .inr (4, [.ref 1, .int 0, .int 0]), .inl (4, 6, .inr (.inr (.inr (.inr fun _ => none)))), .inr (5, [.ref 13, .ref 14, .ref 15, .ref 16, .ref 17, .ref 18, .ref 19, .ref 20, .int 0, .int (-1), .int 0, .int 0, .int 0, .ref 21, .ref 22, .ref 23, .ref 24, .ref 25, .ref 26, .ref 27, .ref 28, .ref 29, .ref 30, .int 0, .int 0, .int 0, .ref 31, .ref 32, .ref 33, .ref 34, .ref 35, .int 0, .int 0, .int 0, .int 0, .int 0, .int 0, .int 0, .int 0, .int 0, .int 0, .int 0, .int 0, .int 0]), .inl (0, 40, .inl fun _ => 0), .inl (0, 21200, .inl fun _ => 0), .inl (0, 240, .inl fun _ => 0), .inl (0, 6, .inl fun _ => 0), .inl (0, 24, .inl fun _ => 0), .inl (0, 6, .inl fun _ => 0), .inl (0, 16, .inl fun _ => 0), .inl (3, 6, .inl fun _ => 0), .inl (0, 16400, .inl fun _ => 0), .inl (0, 16400, .inl fun _ => 0), .inl (0, 16400, .inl fun _ => 0), .inl (0, 16400, .inl fun _ => 0), .inl (0, 16400, .inl fun _ => 0), .inl (0, 16400, .inl fun _ => 0), .inl (0, 1700, .inl fun _ => 0), .inl (0, 1700, .inl fun _ => 0), .inl (0, 16400, .inl fun _ => 0), .inl (0, 16400, .inl fun _ => 0), .inl (0, 64, .inl fun _ => 0), .inl (0, 64, .inl fun _ => 0), .inl (0, 64, .inl fun _ => 0), .inl (0, 64, .inl fun _ => 0), .inl (0, 64, .inl fun _ => 0), .inl (2, 1, .inr (.inl fun _ => 0)), .inr (10, []), .inl (0, 4, .inl (upd (fun _ => 0) 0 0))], 156601)
def zh_4 (xs : Nat → Int32) : zm_H := ([.inl (0, 3, .inl xs), .inr (99, []), .inr (0, [.ref 3, .ref 6, .ref 11, .null, .int 0, .int 0, .int 0, .int 0, .int 0]), .inr (1, [.int 0, .int 0, .ref 4, .ref 5, .int 0, .int 0, .int 0, .int 0]), .inl (1, 40, .inl fun _ => 0), .inl (1, 4, .inl fun _ => 0), .inr (2, [.ref 7, .ref 8, .ref 9, .ref 10, .int 0, .int 0, .int 0]), .inr (3, [.int 1, .int 0, .null, .null, .null]), .inr (4, [.ref 1, .int 0, .int 0]), .inr (4, [.ref 1, .int 0, .int 0]), .inr (4, [.ref 1, .int 0, .int 0]), .inl (4, 6, .inr (.inr (.inr (.inr fun _ => none)))), .inr (5, [.ref 13, .ref 14, .ref 15, .ref 16, .ref 17, .ref 18, .ref 19, .ref 20, .int 0, .int (-1), .int 0, .int 0, .int 0, .ref 21, .ref 22, .ref 23, .ref 24, .ref 25, .ref 26, .ref 27, .ref 28, .ref 29, .ref 30, .int 0, .int 0, .int 0, .ref 31, .ref 32, .ref 33, .ref 34, .ref 35, .int 0, .int 0, .int 0, .int 0, .int 0, .int 0, .int 0, .int 0, .int 0, .int 0, .int 0, .int 0, .int 0]), .inl (0, 40, .inl fun _ => 0), .inl (0, 21200, .inl fun _ => 0), .inl (0, 240, .inl fun _ => 0), .inl (0, 6, .inl fun _ => 0), .inl (0, 24, .inl fun _ => 0), .inl (0, 6, .inl fun _ => 0), .inl (0, 16, .inl fun _ => 0), .inl (3, 6, .inl fun _ => 0), .inl (0, 16400, .inl fun _ => 0), .inl (0, 16400, .inl fun _ => 0), .inl (0, 16400, .inl fun _ => 0), .inl (0, 16400, .inl fun _ => 0), .inl (0, 16400, .inl fun _ => 0), .inl (0, 16400, .inl fun _ => 0), .inl (0, 1700, .inl fun _ => 0), .inl (0, 1700, .inl fun _ => 0), .inl (0, 16400, .inl fun _ => 0), .inl (0, 16400, .inl fun _ => 0), .inl (0, 64, .inl fun _ => 0), .inl (0, 64, .inl fun _ => 0), .inl (0, 64, .inl fun _ => 0), .inl (0, 64, .inl fun _ => 0), .inl (0, 64, .inl fun _ => 0), .inl (2, 1, .inr (.inl fun _ => 0)), .inr (10, []), .inl (0, 4, .inl (upd ((upd ((upd (fun _ => 0) 0 0)) 1 0)) 2 0))], 156601)
def zh_5 (xs : Nat → Int32) : zm_H := ([.inl (0, 3, .inl xs), .inr (99, []), .inr (0, [.ref 3, .ref 6, .ref 11, .null, .int 0, .int 0, .int 0, .int 0, .int 0]), .inr (1, [.int 0, .int 0, .ref 4, .ref 5, .int 0, .int 0, .int 0, .int 0]), .inl (1, 40, .inl fun _ => 0), .inl (1, 4, .inl fun _ => 0), .inr (2, [.ref 7, .ref 8, .ref 9, .ref 10, .int 0, .int 0, .int 0]), .inr (3, [.int 1, .int 0, .null, .null, .null]), .inr (4, [.ref 1, .int 0, .int 0]), .inr (4, [.ref 1, .int 0, .int 0]), .inr (4, [.ref 1, .int 0, .int 0]), .inl (4, 6, .inr (.inr (.inr (.inr fun _ => none)))), .inr (5, [.ref 13, .ref 14, .ref 15, .ref 16, .ref 17, .ref 18, .ref 19, .ref 20, .int 0, .int (-1), .int 0, .int 0, .int 0, .ref 21, .ref 22, .ref 23, .ref 24, .ref 25, .ref 26, .ref 27, .ref 28, .ref 29, .ref 30, .int 0, .int 0, .int 0, .ref 31, .ref 32, .ref 33, .ref 34, .ref 35, .int 0, .int 0, .int 0, .int 0, .int 0, .int 0, .int 0, .int 0, .int 0, .int 0, .int 0, .int 0, .int 0]), .inl (0, 40, .inl fun _ => 0), .inl (0, 21200, .inl fun _ => 0), .inl (0, 240, .inl fun _ => 0), .inl (0, 6, .inl fun _ => 0), .inl (0, 24, .inl fun _ => 0), .inl (0, 6, .inl fun _ => 0), .inl (0, 16, .inl fun _ => 0), .inl (3, 6, .inl fun _ => 0), .inl (0, 16400, .inl fun _ => 0), .inl (0, 16400, .inl fun _ => 0), .inl (0, 16400, .inl fun _ => 0), .inl (0, 16400, .inl fun _ => 0), .inl (0, 16400, .inl fun _ => 0), .inl (0, 16400, .inl fun _ => 0), .inl (0, 1700, .inl fun _ => 0), .inl (0, 1700, .inl fun _ => 0), .inl (0, 16400, .inl fun _ => 0), .inl (0, 16400, .inl fun _ => 0), .inl (0, 64, .inl fun _ => 0), .inl (0, 64, .inl fun _ => 0), .inl (0, 64, .inl fun _ => 0), .inl (0, 64, .inl fun _ => 0), .inl (0, 64, .inl fun _ => 0), .inl (2, 1, .inr (.inl fun _ => 0)), .inr (10, []), .inl (0, 4, .inl (upd ((upd ((upd ((upd (fun _ => 0) 0 0)) 1 0)) 2 0)) 3 0))], 156601)
set_option maxHeartbeats 40000000 in
set_option maxRecDepth 100000 in
/-- NeedMachineModel.look -/
theorem zo1_106 {xs : Nat → Int32} (N : zm_N) (d : Nat) (hd : 1 ≤ d) : zm_J N d 78 0 [(0, .ref 12)] [] (zh_5 xs) (fun z G => z = .inl (some (.int 0)) ∧ G = (zh_5 xs)) := by
  obtain ⟨d, rfl⟩ : ∃ e, d = e + 1 := ⟨d - 1, by omega⟩
  refine zm_J_run zm_T 4 (pc' := 8) (lv' := [(0, .ref 12)]) (st' := [.int 0, .int 0]) (G' := (zh_5 xs)) rfl ?_
  refine zm_J_run zm_T 1 (pc' := if (0 : Int32) ≤ 0 then 23 else 11) (lv' := [(0, .ref 12)]) (st' := []) (G' := (zh_5 xs)) rfl ?_
  rw [if_pos (show (0 : Int32) ≤ 0 by decide +kernel)]
  refine zm_J_run zm_T 1 (pc' := 24) (lv' := [(0, .ref 12)]) (st' := [.int 0]) (G' := (zh_5 xs)) rfl ?_
  exact zm_J_fin zm_T rfl rfl ⟨rfl, rfl⟩

set_option maxHeartbeats 40000000 in
set_option maxRecDepth 100000 in
/-- NeedMachineModel.between -/
theorem zo1_107 {xs : Nat → Int32} (N : zm_N) (d : Nat) (hd : 1 ≤ d) : zm_J N d 73 0 [(0, .int 0), (1, .int 65), (2, .int 70)] [] (zh_5 xs) (fun z G => z = .inl (some (.int 0)) ∧ G = (zh_5 xs)) := by
  obtain ⟨d, rfl⟩ : ∃ e, d = e + 1 := ⟨d - 1, by omega⟩
  refine zm_J_run zm_T 2 (pc' := 2) (lv' := [(0, .int 0), (1, .int 65), (2, .int 70)]) (st' := [.int 65, .int 0]) (G' := (zh_5 xs)) rfl ?_
  refine zm_J_run zm_T 1 (pc' := if (0 : Int32) < 65 then 14 else 5) (lv' := [(0, .int 0), (1, .int 65), (2, .int 70)]) (st' := []) (G' := (zh_5 xs)) rfl ?_
  rw [if_pos (show (0 : Int32) < 65 by decide +kernel)]
  refine zm_J_run zm_T 1 (pc' := 15) (lv' := [(0, .int 0), (1, .int 65), (2, .int 70)]) (st' := [.int 0]) (G' := (zh_5 xs)) rfl ?_
  exact zm_J_fin zm_T rfl rfl ⟨rfl, rfl⟩

set_option maxHeartbeats 40000000 in
set_option maxRecDepth 100000 in
/-- NeedMachineModel.heading -/
theorem zo1_108 {xs : Nat → Int32} (N : zm_N) (d : Nat) (hd : 2 ≤ d) : zm_J N d 77 0 [(0, .ref 12), (1, .ref 38)] [] (zh_5 xs) (fun z G => z = .inl (some (.int (-1))) ∧ G = (zh_5 xs)) := by
  obtain ⟨d, rfl⟩ : ∃ e, d = e + 1 := ⟨d - 1, by omega⟩
  refine zm_J_run zm_T 5 (pc' := 5) (lv' := [(3, .int 0), (2, .int 0), (0, .ref 12), (1, .ref 38)]) (st' := [.ref 12]) (G' := (zh_5 xs)) rfl ?_
  refine zm_J_V (a := 12) (av := []) (rest := []) (Q1 := fun z G => z = .inl (some (.int 0)) ∧ G = (zh_5 xs)) (zm_T.1 77 5 _ rfl).1 zc_77_5 rfl (Nat.le_of_ble_eq_true rfl) (Nat.le_of_ble_eq_true rfl) (Nat.le_of_ble_eq_true rfl) (Nat.le_of_ble_eq_true rfl) (zo1_106 N _ (by omega)) ?_ ?_
  rotate_left
  · intro x G' h; exact nomatch h.1
  intro v G' h
  obtain ⟨h1, rfl⟩ := h
  cases Sum.inl.inj h1
  show zm_J N _ 77 8 [(3, .int 0), (2, .int 0), (0, .ref 12), (1, .ref 38)] [.int 0] (zh_5 xs) _
  refine zm_J_run zm_T 2 (pc' := 12) (lv' := [(3, .int 0), (2, .int 0), (0, .ref 12), (1, .ref 38)]) (st' := [.int 70, .int 65, .int 0]) (G' := (zh_5 xs)) rfl ?_
  refine zm_J_S (av := [.int 0, .int 65, .int 70]) (rest := []) (Q1 := fun z G => z = .inl (some (.int 0)) ∧ G = (zh_5 xs)) (zm_T.1 77 12 _ rfl).1 zc_77_12 (Nat.le_of_ble_eq_true rfl) (Nat.le_of_ble_eq_true rfl) (Nat.le_of_ble_eq_true rfl) (Nat.le_of_ble_eq_true rfl) (zo1_107 N _ (by omega)) ?_ ?_
  rotate_left
  · intro x G' h; exact nomatch h.1
  intro v G' h
  obtain ⟨h1, rfl⟩ := h
  cases Sum.inl.inj h1
  show zm_J N _ 77 15 [(3, .int 0), (2, .int 0), (0, .ref 12), (1, .ref 38)] [.int 0] (zh_5 xs) _
  refine zm_J_run zm_T 2 (pc' := 19) (lv' := [(3, .int 0), (2, .int 0), (0, .ref 12), (1, .ref 38)]) (st' := [.int (-1)]) (G' := (zh_5 xs)) rfl ?_
  exact zm_J_fin zm_T rfl rfl ⟨rfl, rfl⟩

def zh_6 (xs : Nat → Int32) : zm_H := ([.inl (0, 3, .inl xs), .inr (99, []), .inr (0, [.ref 3, .ref 6, .ref 11, .null, .int 0, .int 0, .int 0, .int 0, .int 0]), .inr (1, [.int 0, .int 0, .ref 4, .ref 5, .int 0, .int 0, .int 0, .int 0]), .inl (1, 40, .inl fun _ => 0), .inl (1, 4, .inl fun _ => 0), .inr (2, [.ref 7, .ref 8, .ref 9, .ref 10, .int 0, .int 0, .int 0]), .inr (3, [.int 1, .int 0, .null, .null, .null]), .inr (4, [.ref 1, .int 0, .int 0]), .inr (4, [.ref 1, .int 0, .int 0]), .inr (4, [.ref 1, .int 0, .int 0]), .inl (4, 6, .inr (.inr (.inr (.inr fun _ => none)))), .inr (5, [.ref 13, .ref 14, .ref 15, .ref 16, .ref 17, .ref 18, .ref 19, .ref 20, .int 0, .int 0, .int 0, .int 0, .int 0, .ref 21, .ref 22, .ref 23, .ref 24, .ref 25, .ref 26, .ref 27, .ref 28, .ref 29, .ref 30, .int 0, .int 0, .int 0, .ref 31, .ref 32, .ref 33, .ref 34, .ref 35, .int 0, .int 0, .int 0, .int 0, .int 0, .int 0, .int 0, .int 0, .int 0, .int 0, .int 0, .int 0, .int 0]), .inl (0, 40, .inl fun _ => 0), .inl (0, 21200, .inl fun _ => 0), .inl (0, 240, .inl fun _ => 0), .inl (0, 6, .inl fun _ => 0), .inl (0, 24, .inl fun _ => 0), .inl (0, 6, .inl fun _ => 0), .inl (0, 16, .inl fun _ => 0), .inl (3, 6, .inl fun _ => 0), .inl (0, 16400, .inl fun _ => 0), .inl (0, 16400, .inl fun _ => 0), .inl (0, 16400, .inl fun _ => 0), .inl (0, 16400, .inl fun _ => 0), .inl (0, 16400, .inl fun _ => 0), .inl (0, 16400, .inl fun _ => 0), .inl (0, 1700, .inl fun _ => 0), .inl (0, 1700, .inl fun _ => 0), .inl (0, 16400, .inl fun _ => 0), .inl (0, 16400, .inl fun _ => 0), .inl (0, 64, .inl fun _ => 0), .inl (0, 64, .inl fun _ => 0), .inl (0, 64, .inl fun _ => 0), .inl (0, 64, .inl fun _ => 0), .inl (0, 64, .inl fun _ => 0), .inl (2, 1, .inr (.inl fun _ => 0)), .inr (10, []), .inl (0, 4, .inl (upd ((upd ((upd ((upd (fun _ => 0) 0 0)) 1 0)) 2 0)) 3 0))], 156601)
def zh_7 (xs : Nat → Int32) : zm_H := ([.inl (0, 3, .inl xs), .inr (99, []), .inr (0, [.ref 3, .ref 6, .ref 11, .null, .int 0, .int 0, .int 0, .int 0, .int 0]), .inr (1, [.int 0, .int 0, .ref 4, .ref 5, .int 0, .int 0, .int 0, .int 0]), .inl (1, 40, .inl fun _ => 0), .inl (1, 4, .inl fun _ => 0), .inr (2, [.ref 7, .ref 8, .ref 9, .ref 10, .int 0, .int 0, .int 0]), .inr (3, [.int 1, .int 0, .null, .null, .null]), .inr (4, [.ref 1, .int 0, .int 0]), .inr (4, [.ref 1, .int 0, .int 0]), .inr (4, [.ref 1, .int 0, .int 0]), .inl (4, 6, .inr (.inr (.inr (.inr fun _ => none)))), .inr (5, [.ref 13, .ref 14, .ref 15, .ref 16, .ref 17, .ref 18, .ref 19, .ref 20, .int 0, .int 0, .int 0, .int 0, .int 1, .ref 21, .ref 22, .ref 23, .ref 24, .ref 25, .ref 26, .ref 27, .ref 28, .ref 29, .ref 30, .int 0, .int 0, .int 0, .ref 31, .ref 32, .ref 33, .ref 34, .ref 35, .int 0, .int 0, .int 0, .int 0, .int 0, .int 0, .int 0, .int 0, .int 0, .int 0, .int 0, .int 0, .int 0]), .inl (0, 40, .inl fun _ => 0), .inl (0, 21200, .inl fun _ => 0), .inl (0, 240, .inl fun _ => 0), .inl (0, 6, .inl fun _ => 0), .inl (0, 24, .inl fun _ => 0), .inl (0, 6, .inl fun _ => 0), .inl (0, 16, .inl fun _ => 0), .inl (3, 6, .inl fun _ => 0), .inl (0, 16400, .inl fun _ => 0), .inl (0, 16400, .inl fun _ => 0), .inl (0, 16400, .inl fun _ => 0), .inl (0, 16400, .inl fun _ => 0), .inl (0, 16400, .inl fun _ => 0), .inl (0, 16400, .inl fun _ => 0), .inl (0, 1700, .inl fun _ => 0), .inl (0, 1700, .inl fun _ => 0), .inl (0, 16400, .inl fun _ => 0), .inl (0, 16400, .inl fun _ => 0), .inl (0, 64, .inl fun _ => 0), .inl (0, 64, .inl fun _ => 0), .inl (0, 64, .inl fun _ => 0), .inl (0, 64, .inl fun _ => 0), .inl (0, 64, .inl fun _ => 0), .inl (2, 1, .inr (.inl fun _ => 0)), .inr (10, []), .inl (0, 4, .inl (upd ((upd ((upd ((upd (fun _ => 0) 0 0)) 1 0)) 2 0)) 3 0))], 156601)
set_option maxHeartbeats 40000000 in
set_option maxRecDepth 100000 in
/-- NeedMachineModel.bad -/
theorem zo1_109 {xs : Nat → Int32} (N : zm_N) (d : Nat) (hd : 1 ≤ d) : zm_J N d 74 0 [(0, .ref 12), (1, .int 0)] [] (zh_6 xs) (fun z G => z = .inl (some (.int 1)) ∧ G = (zh_7 xs)) := by
  obtain ⟨d, rfl⟩ : ∃ e, d = e + 1 := ⟨d - 1, by omega⟩
  refine zm_J_run zm_T 8 (pc' := 18) (lv' := [(0, .ref 12), (1, .int 0)]) (st' := [.int 1]) (G' := (zh_7 xs)) rfl ?_
  refine zm_J_run zm_T 1 (pc' := 22) (lv' := [(0, .ref 12), (1, .int 0)]) (st' := [.int 1]) (G' := (zh_7 xs)) rfl ?_
  exact zm_J_fin zm_T rfl rfl ⟨rfl, rfl⟩

set_option maxHeartbeats 40000000 in
set_option maxRecDepth 100000 in
/-- NeedMachineModel.define -/
theorem zo1_110 {xs : Nat → Int32} (N : zm_N) (d : Nat) (hd : 3 ≤ d) : zm_J N d 76 0 [(0, .ref 12)] [] (zh_2 xs) (fun z G => z = .inl (some (.int 0)) ∧ G = (zh_7 xs)) := by
  obtain ⟨d, rfl⟩ : ∃ e, d = e + 1 := ⟨d - 1, by omega⟩
  refine zm_J_run zm_T 8 (pc' := 9) (lv' := [(0, .ref 12)]) (st' := [.int 1, .ref 38, .ref 38]) (G' := (zh_3 xs)) rfl ?_
  refine zm_J_run zm_T 8 (pc' := 17) (lv' := [(0, .ref 12)]) (st' := [.int 3, .ref 38, .ref 38]) (G' := (zh_4 xs)) rfl ?_
  refine zm_J_run zm_T 8 (pc' := 27) (lv' := [(1, .ref 38), (0, .ref 12)]) (st' := [.ref 38, .ref 12]) (G' := (zh_5 xs)) rfl ?_
  refine zm_J_V (a := 12) (av := [.ref 38]) (rest := []) (Q1 := fun z G => z = .inl (some (.int (-1))) ∧ G = (zh_5 xs)) (zm_T.1 76 27 _ rfl).1 zc_76_27 rfl (Nat.le_of_ble_eq_true rfl) (Nat.le_of_ble_eq_true rfl) (Nat.le_of_ble_eq_true rfl) (Nat.le_of_ble_eq_true rfl) (zo1_108 N _ (by omega)) ?_ ?_
  rotate_left
  · intro x G' h; exact nomatch h.1
  intro v G' h
  obtain ⟨h1, rfl⟩ := h
  cases Sum.inl.inj h1
  show zm_J N _ 76 30 [(1, .ref 38), (0, .ref 12)] [.int (-1)] (zh_5 xs) _
  refine zm_J_run zm_T 5 (pc' := 37) (lv' := [(3, .int 0), (2, .int (-1)), (1, .ref 38), (0, .ref 12)]) (st' := [.int (-1)]) (G' := (zh_5 xs)) rfl ?_
  refine zm_J_run zm_T 1 (pc' := if ((-1) : Int32) < 0 then 52 else 40) (lv' := [(3, .int 0), (2, .int (-1)), (1, .ref 38), (0, .ref 12)]) (st' := []) (G' := (zh_5 xs)) rfl ?_
  rw [if_pos (show ((-1) : Int32) < 0 by decide +kernel)]
  refine zm_J_run zm_T 8 (pc' := 68) (lv' := [(4, .int 0), (3, .int 0), (2, .int (-1)), (1, .ref 38), (0, .ref 12)]) (st' := []) (G' := (zh_6 xs)) rfl ?_
  refine zm_J_run zm_T 8 (pc' := 156) (lv' := [(5, .int 0), (4, .int 0), (3, .int 0), (2, .int (-1)), (1, .ref 38), (0, .ref 12)]) (st' := []) (G' := (zh_6 xs)) rfl ?_
  refine zm_J_run zm_T 2 (pc' := 159) (lv' := [(5, .int 0), (4, .int 0), (3, .int 0), (2, .int (-1)), (1, .ref 38), (0, .ref 12)]) (st' := [.int 0, .ref 12]) (G' := (zh_6 xs)) rfl ?_
  refine zm_J_V (a := 12) (av := [.int 0]) (rest := []) (Q1 := fun z G => z = .inl (some (.int 1)) ∧ G = (zh_7 xs)) (zm_T.1 76 159 _ rfl).1 zc_76_159 rfl (Nat.le_of_ble_eq_true rfl) (Nat.le_of_ble_eq_true rfl) (Nat.le_of_ble_eq_true rfl) (Nat.le_of_ble_eq_true rfl) (zo1_109 N _ (by omega)) ?_ ?_
  rotate_left
  · intro x G' h; exact nomatch h.1
  intro v G' h
  obtain ⟨h1, rfl⟩ := h
  cases Sum.inl.inj h1
  show zm_J N _ 76 162 [(5, .int 0), (4, .int 0), (3, .int 0), (2, .int (-1)), (1, .ref 38), (0, .ref 12)] [.int 1] (zh_7 xs) _
  refine zm_J_run zm_T 3 (pc' := 177) (lv' := [(5, .int 0), (4, .int 0), (3, .int 0), (2, .int (-1)), (1, .ref 38), (0, .ref 12)]) (st' := [.int 0]) (G' := (zh_7 xs)) rfl ?_
  exact zm_J_fin zm_T rfl rfl ⟨rfl, rfl⟩

set_option maxHeartbeats 40000000 in
set_option maxRecDepth 100000 in
/-- NeedMachineModel.thrown -/
theorem zo1_111 {xs : Nat → Int32} (N : zm_N) (d : Nat) (hd : 1 ≤ d) : zm_J N d 71 0 [(0, .ref 12)] [] (zh_7 xs) (fun z G => z = .inl (some (.int 1)) ∧ G = (zh_7 xs)) := by
  obtain ⟨d, rfl⟩ : ∃ e, d = e + 1 := ⟨d - 1, by omega⟩
  refine zm_J_run zm_T 2 (pc' := 4) (lv' := [(0, .ref 12)]) (st' := [.int 1]) (G' := (zh_7 xs)) rfl ?_
  exact zm_J_fin zm_T rfl rfl ⟨rfl, rfl⟩

set_option maxHeartbeats 40000000 in
set_option maxRecDepth 100000 in
theorem zl_op1 {xs : Nat → Int32} (N : zm_N) (d : Nat) (hd : 11 ≤ d) : zm_J N d 0 39 [(4, .int 0), (3, .ref 36), (2, .ref 12), (1, .ref 2), (0, .ref 0)] [.int 1] (zh_0 xs) (fun z G => z = .inl (some (.int 1)) ∧ G = (zh_7 xs)) := by
  obtain ⟨d, rfl⟩ : ∃ e, d = e + 1 := ⟨d - 1, by omega⟩
  refine zm_J_run zm_T 3 (pc' := 174) (lv' := [(4, .int 0), (3, .ref 36), (2, .ref 12), (1, .ref 2), (0, .ref 0)]) (st' := [.ref 36, .ref 2]) (G' := (zh_0 xs)) rfl ?_
  refine zm_J_S (av := [.ref 2, .ref 36]) (rest := []) (Q1 := fun z G => z = .inl (some (.int 1)) ∧ G = (zh_2 xs)) (zm_T.1 0 174 _ rfl).1 zc_0_174 (Nat.le_of_ble_eq_true rfl) (Nat.le_of_ble_eq_true rfl) (Nat.le_of_ble_eq_true rfl) (Nat.le_of_ble_eq_true rfl) (zo1_105 N _ (by omega)) ?_ ?_
  rotate_left
  · intro x G' h; exact nomatch h.1
  intro v G' h
  obtain ⟨h1, rfl⟩ := h
  cases Sum.inl.inj h1
  show zm_J N _ 0 177 [(4, .int 0), (3, .ref 36), (2, .ref 12), (1, .ref 2), (0, .ref 0)] [.int 1] (zh_2 xs) _
  refine zm_J_run zm_T 2 (pc' := 180) (lv' := [(5, .int 1), (4, .int 0), (3, .ref 36), (2, .ref 12), (1, .ref 2), (0, .ref 0)]) (st' := [.ref 12]) (G' := (zh_2 xs)) rfl ?_
  refine zm_J_V (a := 12) (av := []) (rest := []) (Q1 := fun z G => z = .inl (some (.int 0)) ∧ G = (zh_7 xs)) (zm_T.1 0 180 _ rfl).1 zc_0_180 rfl (Nat.le_of_ble_eq_true rfl) (Nat.le_of_ble_eq_true rfl) (Nat.le_of_ble_eq_true rfl) (Nat.le_of_ble_eq_true rfl) (zo1_110 N _ (by omega)) ?_ ?_
  rotate_left
  · intro x G' h; exact nomatch h.1
  intro v G' h
  obtain ⟨h1, rfl⟩ := h
  cases Sum.inl.inj h1
  show zm_J N _ 0 183 [(5, .int 1), (4, .int 0), (3, .ref 36), (2, .ref 12), (1, .ref 2), (0, .ref 0)] [.int 0] (zh_7 xs) _
  refine zm_J_run zm_T 2 (pc' := 186) (lv' := [(6, .int 0), (5, .int 1), (4, .int 0), (3, .ref 36), (2, .ref 12), (1, .ref 2), (0, .ref 0)]) (st' := [.ref 12]) (G' := (zh_7 xs)) rfl ?_
  refine zm_J_V (a := 12) (av := []) (rest := []) (Q1 := fun z G => z = .inl (some (.int 1)) ∧ G = (zh_7 xs)) (zm_T.1 0 186 _ rfl).1 zc_0_186 rfl (Nat.le_of_ble_eq_true rfl) (Nat.le_of_ble_eq_true rfl) (Nat.le_of_ble_eq_true rfl) (Nat.le_of_ble_eq_true rfl) (zo1_111 N _ (by omega)) ?_ ?_
  rotate_left
  · intro x G' h; exact nomatch h.1
  intro v G' h
  obtain ⟨h1, rfl⟩ := h
  cases Sum.inl.inj h1
  show zm_J N _ 0 189 [(6, .int 0), (5, .int 1), (4, .int 0), (3, .ref 36), (2, .ref 12), (1, .ref 2), (0, .ref 0)] [.int 1] (zh_7 xs) _
  refine zm_J_run zm_T 8 (pc' := 25) (lv' := [(4, .int 3), (6, .int 0), (5, .int 1), (3, .ref 36), (2, .ref 12), (1, .ref 2), (0, .ref 0)]) (st' := [.int 3]) (G' := (zh_7 xs)) rfl ?_
  refine zm_J_run zm_T 4 (pc' := 29) (lv' := [(4, .int 3), (6, .int 0), (5, .int 1), (3, .ref 36), (2, .ref 12), (1, .ref 2), (0, .ref 0)]) (st' := [.int (3 - 3), .int 3]) (G' := (zh_7 xs)) rfl ?_
  refine zm_J_run zm_T 1 (pc' := if ((3 - 3) : Int32) < 3 then 459 else 32) (lv' := [(4, .int 3), (6, .int 0), (5, .int 1), (3, .ref 36), (2, .ref 12), (1, .ref 2), (0, .ref 0)]) (st' := []) (G' := (zh_7 xs)) rfl ?_
  rw [if_pos (show ((3 - 3) : Int32) < 3 by decide +kernel)]
  refine zm_J_run zm_T 1 (pc' := 460) (lv' := [(4, .int 3), (6, .int 0), (5, .int 1), (3, .ref 36), (2, .ref 12), (1, .ref 2), (0, .ref 0)]) (st' := [.int 1]) (G' := (zh_7 xs)) rfl ?_
  exact zm_J_fin zm_T rfl rfl ⟨rfl, rfl⟩

def zh_8 (xs : Nat → Int32) : zm_H := ([.inl (0, 3, .inl xs), .inr (99, []), .inr (0, [.ref 3, .ref 6, .ref 11, .null, .int 0, .int 0, .int 0, .int 0, .int 0]), .inr (1, [.int 0, .int (-1), .ref 4, .ref 5, .int 0, .int 0, .int 0, .int 1]), .inl (1, 40, .inl fun _ => 0), .inl (1, 4, .inl fun _ => 0), .inr (2, [.ref 7, .ref 8, .ref 9, .ref 10, .int 0, .int 0, .int 0]), .inr (3, [.int 1, .int 0, .null, .null, .null]), .inr (4, [.ref 1, .int 0, .int 0]), .inr (4, [.ref 1, .int 0, .int 0]), .inr (4, [.ref 1, .int 0, .int 0]), .inl (4, 6, .inr (.inr (.inr (.inr fun _ => none)))), .inr (5, [.ref 13, .ref 14, .ref 15, .ref 16, .ref 17, .ref 18, .ref 19, .ref 20, .int 0, .int (-1), .int 0, .int 0, .int 0, .ref 21, .ref 22, .ref 23, .ref 24, .ref 25, .ref 26, .ref 27, .ref 28, .ref 29, .ref 30, .int 0, .int 0, .int 0, .ref 31, .ref 32, .ref 33, .ref 34, .ref 35, .int 0, .int 0, .int 0, .int 0, .int 0, .int 0, .int 0, .int 0, .int 0, .int 0, .int 0, .int 0, .int 0]), .inl (0, 40, .inl fun _ => 0), .inl (0, 21200, .inl fun _ => 0), .inl (0, 240, .inl fun _ => 0), .inl (0, 6, .inl fun _ => 0), .inl (0, 24, .inl fun _ => 0), .inl (0, 6, .inl fun _ => 0), .inl (0, 16, .inl fun _ => 0), .inl (3, 6, .inl fun _ => 0), .inl (0, 16400, .inl fun _ => 0), .inl (0, 16400, .inl fun _ => 0), .inl (0, 16400, .inl fun _ => 0), .inl (0, 16400, .inl fun _ => 0), .inl (0, 16400, .inl fun _ => 0), .inl (0, 16400, .inl fun _ => 0), .inl (0, 1700, .inl fun _ => 0), .inl (0, 1700, .inl fun _ => 0), .inl (0, 16400, .inl fun _ => 0), .inl (0, 16400, .inl fun _ => 0), .inl (0, 64, .inl fun _ => 0), .inl (0, 64, .inl fun _ => 0), .inl (0, 64, .inl fun _ => 0), .inl (0, 64, .inl fun _ => 0), .inl (0, 64, .inl fun _ => 0), .inl (2, 1, .inr (.inl fun _ => 0))], 156591)
def zh_9 (xs : Nat → Int32) : zm_H := ([.inl (0, 3, .inl xs), .inr (99, []), .inr (0, [.ref 3, .ref 6, .ref 11, .null, .int 0, .int 0, .int 0, .int 0, .int 0]), .inr (1, [.int 0, .int 0, .ref 4, .ref 5, .int 0, .int 0, .int 0, .int 1]), .inl (1, 40, .inl fun _ => 0), .inl (1, 4, .inl fun _ => 0), .inr (2, [.ref 7, .ref 8, .ref 9, .ref 10, .int 0, .int 0, .int 0]), .inr (3, [.int 1, .int 0, .null, .null, .null]), .inr (4, [.ref 1, .int 0, .int 0]), .inr (4, [.ref 1, .int 0, .int 0]), .inr (4, [.ref 1, .int 0, .int 0]), .inl (4, 6, .inr (.inr (.inr (.inr fun _ => none)))), .inr (5, [.ref 13, .ref 14, .ref 15, .ref 16, .ref 17, .ref 18, .ref 19, .ref 20, .int 0, .int (-1), .int 0, .int 0, .int 0, .ref 21, .ref 22, .ref 23, .ref 24, .ref 25, .ref 26, .ref 27, .ref 28, .ref 29, .ref 30, .int 0, .int 0, .int 0, .ref 31, .ref 32, .ref 33, .ref 34, .ref 35, .int 0, .int 0, .int 0, .int 0, .int 0, .int 0, .int 0, .int 0, .int 0, .int 0, .int 0, .int 0, .int 0]), .inl (0, 40, .inl fun _ => 0), .inl (0, 21200, .inl fun _ => 0), .inl (0, 240, .inl fun _ => 0), .inl (0, 6, .inl fun _ => 0), .inl (0, 24, .inl fun _ => 0), .inl (0, 6, .inl fun _ => 0), .inl (0, 16, .inl fun _ => 0), .inl (3, 6, .inl fun _ => 0), .inl (0, 16400, .inl fun _ => 0), .inl (0, 16400, .inl fun _ => 0), .inl (0, 16400, .inl fun _ => 0), .inl (0, 16400, .inl fun _ => 0), .inl (0, 16400, .inl fun _ => 0), .inl (0, 16400, .inl fun _ => 0), .inl (0, 1700, .inl fun _ => 0), .inl (0, 1700, .inl fun _ => 0), .inl (0, 16400, .inl fun _ => 0), .inl (0, 16400, .inl fun _ => 0), .inl (0, 64, .inl fun _ => 0), .inl (0, 64, .inl fun _ => 0), .inl (0, 64, .inl fun _ => 0), .inl (0, 64, .inl fun _ => 0), .inl (0, 64, .inl fun _ => 0), .inl (2, 1, .inr (.inl fun _ => 0))], 156591)
def zh_10 (xs : Nat → Int32) : zm_H := ([.inl (0, 3, .inl xs), .inr (99, []), .inr (0, [.ref 3, .ref 6, .ref 11, .null, .int 0, .int 0, .int 0, .int 0, .int 0]), .inr (1, [.int 0, .int 0, .ref 4, .ref 5, .int 0, .int 0, .int 0, .int 1]), .inl (1, 40, .inl fun _ => 0), .inl (1, 4, .inl fun _ => 0), .inr (2, [.ref 7, .ref 8, .ref 9, .ref 10, .int 0, .int 0, .int 0]), .inr (3, [.int 1, .int 0, .null, .null, .null]), .inr (4, [.ref 1, .int 0, .int 0]), .inr (4, [.ref 1, .int 0, .int 0]), .inr (4, [.ref 1, .int 0, .int 0]), .inl (4, 6, .inr (.inr (.inr (.inr fun _ => none)))), .inr (5, [.ref 13, .ref 14, .ref 15, .ref 16, .ref 17, .ref 18, .ref 19, .ref 20, .int 0, .int (-1), .int 0, .int 0, .int 0, .ref 21, .ref 22, .ref 23, .ref 24, .ref 25, .ref 26, .ref 27, .ref 28, .ref 29, .ref 30, .int 0, .int 0, .int 0, .ref 31, .ref 32, .ref 33, .ref 34, .ref 35, .int 0, .int 0, .int 0, .int 0, .int 0, .int 0, .int 0, .int 0, .int 0, .int 0, .int 0, .int 0, .int 0]), .inl (0, 40, .inl fun _ => 0), .inl (0, 21200, .inl fun _ => 0), .inl (0, 240, .inl fun _ => 0), .inl (0, 6, .inl fun _ => 0), .inl (0, 24, .inl fun _ => 0), .inl (0, 6, .inl fun _ => 0), .inl (0, 16, .inl fun _ => 0), .inl (3, 6, .inl fun _ => 0), .inl (0, 16400, .inl fun _ => 0), .inl (0, 16400, .inl fun _ => 0), .inl (0, 16400, .inl fun _ => 0), .inl (0, 16400, .inl fun _ => 0), .inl (0, 16400, .inl fun _ => 0), .inl (0, 16400, .inl fun _ => 0), .inl (0, 1700, .inl fun _ => 0), .inl (0, 1700, .inl fun _ => 0), .inl (0, 16400, .inl fun _ => 0), .inl (0, 16400, .inl fun _ => 0), .inl (0, 64, .inl fun _ => 0), .inl (0, 64, .inl fun _ => 0), .inl (0, 64, .inl fun _ => 0), .inl (0, 64, .inl fun _ => 0), .inl (0, 64, .inl fun _ => 0), .inl (2, 1, .inr (.inl fun _ => 0)), .inr (10, [])], 156597)
set_option maxHeartbeats 40000000 in
set_option maxRecDepth 100000 in
/-- NeedMachine$Text.refuseUnless -/
theorem zo2_112 {xs : Nat → Int32} (N : zm_N) (d : Nat) (hd : 7 ≤ d) : zm_J N d 20 0 [(0, .ref 3), (1, .int 0)] [] (zh_8 xs) (fun z G => z = .inr (0, 37) ∧ G = (zh_10 xs)) := by
  obtain ⟨d, rfl⟩ : ∃ e, d = e + 1 := ⟨d - 1, by omega⟩
  refine zm_J_run zm_T 6 (pc' := 12) (lv' := [(0, .ref 3), (1, .int 0)]) (st' := []) (G' := (zh_9 xs)) rfl ?_
  exact zm_J_throw zx_20_12 (by omega) (Nat.le_of_ble_eq_true rfl) rfl ⟨rfl, rfl⟩

set_option maxHeartbeats 40000000 in
set_option maxRecDepth 100000 in
/-- NeedMachine$Text.readExpression -/
theorem zo2_113 {xs : Nat → Int32} (N : zm_N) (d : Nat) (hd : 8 ≤ d) : zm_J N d 25 0 [(0, .ref 3), (1, .int 1)] [] (zh_8 xs) (fun z G => z = .inr (0, 37) ∧ G = (zh_10 xs)) := by
  obtain ⟨d, rfl⟩ : ∃ e, d = e + 1 := ⟨d - 1, by omega⟩
  refine zm_J_run zm_T 5 (pc' := 9) (lv' := [(0, .ref 3), (1, .int 1)]) (st' := [.int 0, .int 0, .ref 3]) (G' := (zh_8 xs)) rfl ?_
  refine zm_J_run zm_T 1 (pc' := if (0 : Int32) ≤ 0 then 33 else 12) (lv' := [(0, .ref 3), (1, .int 1)]) (st' := [.ref 3]) (G' := (zh_8 xs)) rfl ?_
  rw [if_pos (show (0 : Int32) ≤ 0 by decide +kernel)]
  refine zm_J_run zm_T 1 (pc' := 34) (lv' := [(0, .ref 3), (1, .int 1)]) (st' := [.int 0, .ref 3]) (G' := (zh_8 xs)) rfl ?_
  refine zm_J_V (a := 3) (av := [.int 0]) (rest := []) (Q1 := fun z G => z = .inr (0, 37) ∧ G = (zh_10 xs)) (zm_T.1 25 34 _ rfl).1 zc_25_34 rfl (Nat.le_of_ble_eq_true rfl) (Nat.le_of_ble_eq_true rfl) (Nat.le_of_ble_eq_true rfl) (Nat.le_of_ble_eq_true rfl) (zo2_112 N _ (by omega)) ?_ ?_
  · intro v G' h; exact nomatch h.1
  intro x G' h
  obtain ⟨h1, rfl⟩ := h
  cases Sum.inr.inj h1
  exact Or.inl ⟨zm_out0 rfl, rfl, rfl⟩

set_option maxHeartbeats 40000000 in
set_option maxRecDepth 100000 in
/-- NeedMachine$Text.readToTheEnd -/
theorem zo2_114 {xs : Nat → Int32} (N : zm_N) (d : Nat) (hd : 9 ≤ d) : zm_J N d 24 0 [(0, .ref 3)] [] (zh_0 xs) (fun z G => z = .inr (0, 37) ∧ G = (zh_10 xs)) := by
  obtain ⟨d, rfl⟩ : ∃ e, d = e + 1 := ⟨d - 1, by omega⟩
  refine zm_J_run zm_T 5 (pc' := 7) (lv' := [(0, .ref 3)]) (st' := [.int 1, .ref 3]) (G' := (zh_8 xs)) rfl ?_
  refine zm_J_V (a := 3) (av := [.int 1]) (rest := []) (Q1 := fun z G => z = .inr (0, 37) ∧ G = (zh_10 xs)) (zm_T.1 24 7 _ rfl).1 zc_24_7 rfl (Nat.le_of_ble_eq_true rfl) (Nat.le_of_ble_eq_true rfl) (Nat.le_of_ble_eq_true rfl) (Nat.le_of_ble_eq_true rfl) (zo2_113 N _ (by omega)) ?_ ?_
  · intro v G' h; exact nomatch h.1
  intro x G' h
  obtain ⟨h1, rfl⟩ := h
  cases Sum.inr.inj h1
  exact Or.inl ⟨zm_out0 rfl, rfl, rfl⟩

set_option maxHeartbeats 40000000 in
set_option maxRecDepth 100000 in
/-- NeedMachine$Text.readAsked -/
theorem zo2_115 {xs : Nat → Int32} (N : zm_N) (d : Nat) (hd : 10 ≤ d) : zm_J N d 35 0 [(0, .ref 3)] [] (zh_0 xs) (fun z G => z = .inr (0, 37) ∧ G = (zh_10 xs)) := by
  obtain ⟨d, rfl⟩ : ∃ e, d = e + 1 := ⟨d - 1, by omega⟩
  refine zm_J_run zm_T 1 (pc' := 1) (lv' := [(0, .ref 3)]) (st' := [.ref 3]) (G' := (zh_0 xs)) rfl ?_
  refine zm_J_V (a := 3) (av := []) (rest := []) (Q1 := fun z G => z = .inl none ∧ G = (zh_0 xs)) (zm_T.1 35 1 _ rfl).1 zc_35_1 rfl (Nat.le_of_ble_eq_true rfl) (Nat.le_of_ble_eq_true rfl) (Nat.le_of_ble_eq_true rfl) (Nat.le_of_ble_eq_true rfl) (zo1_101 N _ (by omega)) ?_ ?_
  rotate_left
  · intro x G' h; exact nomatch h.1
  intro v G' h
  obtain ⟨h1, rfl⟩ := h
  cases Sum.inl.inj h1
  show zm_J N _ 35 4 [(0, .ref 3)] [] (zh_0 xs) _
  refine zm_J_run zm_T 1 (pc' := 5) (lv' := [(0, .ref 3)]) (st' := [.ref 3]) (G' := (zh_0 xs)) rfl ?_
  refine zm_J_V (a := 3) (av := []) (rest := []) (Q1 := fun z G => z = .inr (0, 37) ∧ G = (zh_10 xs)) (zm_T.1 35 5 _ rfl).1 zc_35_5 rfl (Nat.le_of_ble_eq_true rfl) (Nat.le_of_ble_eq_true rfl) (Nat.le_of_ble_eq_true rfl) (Nat.le_of_ble_eq_true rfl) (zo2_114 N _ (by omega)) ?_ ?_
  · intro v G' h; exact nomatch h.1
  intro x G' h
  obtain ⟨h1, rfl⟩ := h
  cases Sum.inr.inj h1
  exact Or.inl ⟨zm_out0 rfl, rfl, rfl⟩

set_option maxHeartbeats 40000000 in
set_option maxRecDepth 100000 in
/-- NeedMachine.ask -/
theorem zo2_116 {xs : Nat → Int32} (N : zm_N) (d : Nat) (hd : 11 ≤ d) : zm_J N d 34 0 [(0, .ref 2)] [] (zh_0 xs) (fun z G => z = .inr (0, 37) ∧ G = (zh_10 xs)) := by
  obtain ⟨d, rfl⟩ : ∃ e, d = e + 1 := ⟨d - 1, by omega⟩
  refine zm_J_run zm_T 2 (pc' := 4) (lv' := [(0, .ref 2)]) (st' := [.ref 3]) (G' := (zh_0 xs)) rfl ?_
  refine zm_J_V (a := 3) (av := []) (rest := []) (Q1 := fun z G => z = .inr (0, 37) ∧ G = (zh_10 xs)) (zm_T.1 34 4 _ rfl).1 zc_34_4 rfl (Nat.le_of_ble_eq_true rfl) (Nat.le_of_ble_eq_true rfl) (Nat.le_of_ble_eq_true rfl) (Nat.le_of_ble_eq_true rfl) (zo2_115 N _ (by omega)) ?_ ?_
  · intro v G' h; exact nomatch h.1
  intro x G' h
  obtain ⟨h1, rfl⟩ := h
  cases Sum.inr.inj h1
  exact Or.inl ⟨zm_out0 rfl, rfl, rfl⟩

set_option maxHeartbeats 40000000 in
set_option maxRecDepth 100000 in
/-- NeedMachineLaw.ask -/
theorem zo2_117 {xs : Nat → Int32} (N : zm_N) (d : Nat) (hd : 12 ≤ d) : zm_J N d 33 0 [(0, .ref 2), (1, .ref 36)] [] (zh_0 xs) (fun z G => z = .inl (some (.int 1)) ∧ G = (zh_10 xs)) := by
  obtain ⟨d, rfl⟩ : ∃ e, d = e + 1 := ⟨d - 1, by omega⟩
  refine zm_J_run zm_T 3 (pc' := 3) (lv' := [(0, .ref 2), (1, .ref 36)]) (st' := [.ref 2, .int 0, .ref 36]) (G' := (zh_0 xs)) rfl ?_
  refine zm_J_V (a := 2) (av := []) (rest := [.int 0, .ref 36]) (Q1 := fun z G => z = .inr (0, 37) ∧ G = (zh_10 xs)) (zm_T.1 33 3 _ rfl).1 zc_33_3 rfl (Nat.le_of_ble_eq_true rfl) (Nat.le_of_ble_eq_true rfl) (Nat.le_of_ble_eq_true rfl) (Nat.le_of_ble_eq_true rfl) (zo2_116 N _ (by omega)) ?_ ?_
  · intro v G' h; exact nomatch h.1
  intro x G' h
  obtain ⟨h1, rfl⟩ := h
  cases Sum.inr.inj h1
  refine Or.inr ⟨11, zt_33_0, ?_⟩
  show zm_J N _ 33 11 [(0, .ref 2), (1, .ref 36)] [.ref 37] (zh_10 xs) _
  refine zm_J_run zm_T 2 (pc' := 13) (lv' := [(2, .ref 37), (0, .ref 2), (1, .ref 36)]) (st' := [.int 1]) (G' := (zh_10 xs)) rfl ?_
  exact zm_J_fin zm_T rfl rfl ⟨rfl, rfl⟩

def zh_11 (xs : Nat → Int32) : zm_H := ([.inl (0, 3, .inl xs), .inr (99, []), .inr (0, [.ref 3, .ref 6, .ref 11, .null, .int 0, .int 0, .int 0, .int 0, .int 0]), .inr (1, [.int 0, .int 0, .ref 4, .ref 5, .int 0, .int 0, .int 0, .int 1]), .inl (1, 40, .inl fun _ => 0), .inl (1, 4, .inl fun _ => 0), .inr (2, [.ref 7, .ref 8, .ref 9, .ref 10, .int 0, .int 0, .int 0]), .inr (3, [.int 1, .int 0, .null, .null, .null]), .inr (4, [.ref 1, .int 0, .int 0]), .inr (4, [.ref 1, .int 0, .int 0]), .inr (4, [.ref 1, .int 0, .int 0]), .inl (4, 6, .inr (.inr (.inr (.inr fun _ => none)))), .inr (5, [.ref 13, .ref 14, .ref 15, .ref 16, .ref 17, .ref 18, .ref 19, .ref 20, .int 0, .int (-1), .int 0, .int 0, .int 0, .ref 21, .ref 22, .ref 23, .ref 24, .ref 25, .ref 26, .ref 27, .ref 28, .ref 29, .ref 30, .int 0, .int 0, .int 0, .ref 31, .ref 32, .ref 33, .ref 34, .ref 35, .int 0, .int 0, .int 0, .int 0, .int 0, .int 0, .int 0, .int 0, .int 0, .int 0, .int 0, .int 0, .int 0]), .inl (0, 40, .inl fun _ => 0), .inl (0, 21200, .inl fun _ => 0), .inl (0, 240, .inl fun _ => 0), .inl (0, 6, .inl fun _ => 0), .inl (0, 24, .inl fun _ => 0), .inl (0, 6, .inl fun _ => 0), .inl (0, 16, .inl (upd (fun _ => 0) 1 1)), .inl (3, 6, .inl fun _ => 0), .inl (0, 16400, .inl fun _ => 0), .inl (0, 16400, .inl fun _ => 0), .inl (0, 16400, .inl fun _ => 0), .inl (0, 16400, .inl fun _ => 0), .inl (0, 16400, .inl fun _ => 0), .inl (0, 16400, .inl fun _ => 0), .inl (0, 1700, .inl fun _ => 0), .inl (0, 1700, .inl fun _ => 0), .inl (0, 16400, .inl fun _ => 0), .inl (0, 16400, .inl fun _ => 0), .inl (0, 64, .inl fun _ => 0), .inl (0, 64, .inl fun _ => 0), .inl (0, 64, .inl fun _ => 0), .inl (0, 64, .inl fun _ => 0), .inl (0, 64, .inl fun _ => 0), .inl (2, 1, .inr (.inl fun _ => 0)), .inr (10, [])], 156597)
set_option maxHeartbeats 40000000 in
set_option maxRecDepth 100000 in
/-- NeedMachineModel.look -/
theorem zo2_118 {xs : Nat → Int32} (N : zm_N) (d : Nat) (hd : 1 ≤ d) : zm_J N d 78 0 [(0, .ref 12)] [] (zh_11 xs) (fun z G => z = .inl (some (.int 0)) ∧ G = (zh_11 xs)) := by
  obtain ⟨d, rfl⟩ : ∃ e, d = e + 1 := ⟨d - 1, by omega⟩
  refine zm_J_run zm_T 4 (pc' := 8) (lv' := [(0, .ref 12)]) (st' := [.int 0, .int 0]) (G' := (zh_11 xs)) rfl ?_
  refine zm_J_run zm_T 1 (pc' := if (0 : Int32) ≤ 0 then 23 else 11) (lv' := [(0, .ref 12)]) (st' := []) (G' := (zh_11 xs)) rfl ?_
  rw [if_pos (show (0 : Int32) ≤ 0 by decide +kernel)]
  refine zm_J_run zm_T 1 (pc' := 24) (lv' := [(0, .ref 12)]) (st' := [.int 0]) (G' := (zh_11 xs)) rfl ?_
  exact zm_J_fin zm_T rfl rfl ⟨rfl, rfl⟩

set_option maxHeartbeats 40000000 in
set_option maxRecDepth 100000 in
/-- NeedMachineModel.between -/
theorem zo2_119 {xs : Nat → Int32} (N : zm_N) (d : Nat) (hd : 1 ≤ d) : zm_J N d 73 0 [(0, .int 0), (1, .int 48), (2, .int 57)] [] (zh_11 xs) (fun z G => z = .inl (some (.int 0)) ∧ G = (zh_11 xs)) := by
  obtain ⟨d, rfl⟩ : ∃ e, d = e + 1 := ⟨d - 1, by omega⟩
  refine zm_J_run zm_T 2 (pc' := 2) (lv' := [(0, .int 0), (1, .int 48), (2, .int 57)]) (st' := [.int 48, .int 0]) (G' := (zh_11 xs)) rfl ?_
  refine zm_J_run zm_T 1 (pc' := if (0 : Int32) < 48 then 14 else 5) (lv' := [(0, .int 0), (1, .int 48), (2, .int 57)]) (st' := []) (G' := (zh_11 xs)) rfl ?_
  rw [if_pos (show (0 : Int32) < 48 by decide +kernel)]
  refine zm_J_run zm_T 1 (pc' := 15) (lv' := [(0, .int 0), (1, .int 48), (2, .int 57)]) (st' := [.int 0]) (G' := (zh_11 xs)) rfl ?_
  exact zm_J_fin zm_T rfl rfl ⟨rfl, rfl⟩

set_option maxHeartbeats 40000000 in
set_option maxRecDepth 100000 in
/-- NeedMachineModel.between -/
theorem zo2_120 {xs : Nat → Int32} (N : zm_N) (d : Nat) (hd : 1 ≤ d) : zm_J N d 73 0 [(0, .int 0), (1, .int 97), (2, .int 102)] [] (zh_11 xs) (fun z G => z = .inl (some (.int 0)) ∧ G = (zh_11 xs)) := by
  obtain ⟨d, rfl⟩ : ∃ e, d = e + 1 := ⟨d - 1, by omega⟩
  refine zm_J_run zm_T 2 (pc' := 2) (lv' := [(0, .int 0), (1, .int 97), (2, .int 102)]) (st' := [.int 97, .int 0]) (G' := (zh_11 xs)) rfl ?_
  refine zm_J_run zm_T 1 (pc' := if (0 : Int32) < 97 then 14 else 5) (lv' := [(0, .int 0), (1, .int 97), (2, .int 102)]) (st' := []) (G' := (zh_11 xs)) rfl ?_
  rw [if_pos (show (0 : Int32) < 97 by decide +kernel)]
  refine zm_J_run zm_T 1 (pc' := 15) (lv' := [(0, .int 0), (1, .int 97), (2, .int 102)]) (st' := [.int 0]) (G' := (zh_11 xs)) rfl ?_
  exact zm_J_fin zm_T rfl rfl ⟨rfl, rfl⟩

set_option maxHeartbeats 40000000 in
set_option maxRecDepth 100000 in
/-- NeedMachineModel.between -/
theorem zo2_121 {xs : Nat → Int32} (N : zm_N) (d : Nat) (hd : 1 ≤ d) : zm_J N d 73 0 [(0, .int 0), (1, .int 65), (2, .int 70)] [] (zh_11 xs) (fun z G => z = .inl (some (.int 0)) ∧ G = (zh_11 xs)) := by
  obtain ⟨d, rfl⟩ : ∃ e, d = e + 1 := ⟨d - 1, by omega⟩
  refine zm_J_run zm_T 2 (pc' := 2) (lv' := [(0, .int 0), (1, .int 65), (2, .int 70)]) (st' := [.int 65, .int 0]) (G' := (zh_11 xs)) rfl ?_
  refine zm_J_run zm_T 1 (pc' := if (0 : Int32) < 65 then 14 else 5) (lv' := [(0, .int 0), (1, .int 65), (2, .int 70)]) (st' := []) (G' := (zh_11 xs)) rfl ?_
  rw [if_pos (show (0 : Int32) < 65 by decide +kernel)]
  refine zm_J_run zm_T 1 (pc' := 15) (lv' := [(0, .int 0), (1, .int 65), (2, .int 70)]) (st' := [.int 0]) (G' := (zh_11 xs)) rfl ?_
  exact zm_J_fin zm_T rfl rfl ⟨rfl, rfl⟩

set_option maxHeartbeats 40000000 in
set_option maxRecDepth 100000 in
/-- NeedMachineModel.parts -/
theorem zo2_122 {xs : Nat → Int32} (N : zm_N) (d : Nat) (hd : 2 ≤ d) : zm_J N d 80 0 [(0, .int 0)] [] (zh_11 xs) (fun z G => z = .inl (some (.int (-1))) ∧ G = (zh_11 xs)) := by
  obtain ⟨d, rfl⟩ : ∃ e, d = e + 1 := ⟨d - 1, by omega⟩
  refine zm_J_run zm_T 3 (pc' := 5) (lv' := [(0, .int 0)]) (st' := [.int 57, .int 48, .int 0]) (G' := (zh_11 xs)) rfl ?_
  refine zm_J_S (av := [.int 0, .int 48, .int 57]) (rest := []) (Q1 := fun z G => z = .inl (some (.int 0)) ∧ G = (zh_11 xs)) (zm_T.1 80 5 _ rfl).1 zc_80_5 (Nat.le_of_ble_eq_true rfl) (Nat.le_of_ble_eq_true rfl) (Nat.le_of_ble_eq_true rfl) (Nat.le_of_ble_eq_true rfl) (zo2_119 N _ (by omega)) ?_ ?_
  rotate_left
  · intro x G' h; exact nomatch h.1
  intro v G' h
  obtain ⟨h1, rfl⟩ := h
  cases Sum.inl.inj h1
  show zm_J N _ 80 8 [(0, .int 0)] [.int 0] (zh_11 xs) _
  refine zm_J_run zm_T 4 (pc' := 16) (lv' := [(0, .int 0)]) (st' := [.int 102, .int 97, .int 0]) (G' := (zh_11 xs)) rfl ?_
  refine zm_J_S (av := [.int 0, .int 97, .int 102]) (rest := []) (Q1 := fun z G => z = .inl (some (.int 0)) ∧ G = (zh_11 xs)) (zm_T.1 80 16 _ rfl).1 zc_80_16 (Nat.le_of_ble_eq_true rfl) (Nat.le_of_ble_eq_true rfl) (Nat.le_of_ble_eq_true rfl) (Nat.le_of_ble_eq_true rfl) (zo2_120 N _ (by omega)) ?_ ?_
  rotate_left
  · intro x G' h; exact nomatch h.1
  intro v G' h
  obtain ⟨h1, rfl⟩ := h
  cases Sum.inl.inj h1
  show zm_J N _ 80 19 [(0, .int 0)] [.int 0] (zh_11 xs) _
  refine zm_J_run zm_T 4 (pc' := 27) (lv' := [(0, .int 0)]) (st' := [.int 70, .int 65, .int 0]) (G' := (zh_11 xs)) rfl ?_
  refine zm_J_S (av := [.int 0, .int 65, .int 70]) (rest := []) (Q1 := fun z G => z = .inl (some (.int 0)) ∧ G = (zh_11 xs)) (zm_T.1 80 27 _ rfl).1 zc_80_27 (Nat.le_of_ble_eq_true rfl) (Nat.le_of_ble_eq_true rfl) (Nat.le_of_ble_eq_true rfl) (Nat.le_of_ble_eq_true rfl) (zo2_121 N _ (by omega)) ?_ ?_
  rotate_left
  · intro x G' h; exact nomatch h.1
  intro v G' h
  obtain ⟨h1, rfl⟩ := h
  cases Sum.inl.inj h1
  show zm_J N _ 80 30 [(0, .int 0)] [.int 0] (zh_11 xs) _
  refine zm_J_run zm_T 8 (pc' := 48) (lv' := [(0, .int 0)]) (st' := [.int 0]) (G' := (zh_11 xs)) rfl ?_
  refine zm_J_run zm_T 8 (pc' := 69) (lv' := [(0, .int 0)]) (st' := []) (G' := (zh_11 xs)) rfl ?_
  refine zm_J_run zm_T 8 (pc' := 84) (lv' := [(0, .int 0)]) (st' := [.int 45, .int 0]) (G' := (zh_11 xs)) rfl ?_
  refine zm_J_run zm_T 8 (pc' := 100) (lv' := [(0, .int 0)]) (st' := [.int 0]) (G' := (zh_11 xs)) rfl ?_
  refine zm_J_run zm_T 8 (pc' := 117) (lv' := [(0, .int 0)]) (st' := []) (G' := (zh_11 xs)) rfl ?_
  refine zm_J_run zm_T 4 (pc' := 128) (lv' := [(0, .int 0)]) (st' := [.int (-1)]) (G' := (zh_11 xs)) rfl ?_
  exact zm_J_fin zm_T rfl rfl ⟨rfl, rfl⟩

set_option maxHeartbeats 40000000 in
set_option maxRecDepth 100000 in
/-- NeedMachineModel.read -/
theorem zo2_123 {xs : Nat → Int32} (N : zm_N) (d : Nat) (hd : 3 ≤ d) : zm_J N d 79 0 [(0, .ref 12), (1, .int 0)] [] (zh_10 xs) (fun z G => z = .inl (some (.int 0)) ∧ G = (zh_11 xs)) := by
  obtain ⟨d, rfl⟩ : ∃ e, d = e + 1 := ⟨d - 1, by omega⟩
  refine zm_J_run zm_T 8 (pc' := 10) (lv' := [(2, .int 1), (0, .ref 12), (1, .int 0)]) (st' := [.int 1]) (G' := (zh_11 xs)) rfl ?_
  refine zm_J_run zm_T 1 (pc' := if (1 : Int32) ≤ 0 then 122 else 13) (lv' := [(2, .int 1), (0, .ref 12), (1, .int 0)]) (st' := []) (G' := (zh_11 xs)) rfl ?_
  rw [if_neg (show ¬ ((1 : Int32) ≤ 0) by decide +kernel)]
  refine zm_J_run zm_T 1 (pc' := 14) (lv' := [(2, .int 1), (0, .ref 12), (1, .int 0)]) (st' := [.ref 12]) (G' := (zh_11 xs)) rfl ?_
  refine zm_J_V (a := 12) (av := []) (rest := []) (Q1 := fun z G => z = .inl (some (.int 0)) ∧ G = (zh_11 xs)) (zm_T.1 79 14 _ rfl).1 zc_79_14 rfl (Nat.le_of_ble_eq_true rfl) (Nat.le_of_ble_eq_true rfl) (Nat.le_of_ble_eq_true rfl) (Nat.le_of_ble_eq_true rfl) (zo2_118 N _ (by omega)) ?_ ?_
  rotate_left
  · intro x G' h; exact nomatch h.1
  intro v G' h
  obtain ⟨h1, rfl⟩ := h
  cases Sum.inl.inj h1
  show zm_J N _ 79 17 [(2, .int 1), (0, .ref 12), (1, .int 0)] [.int 0] (zh_11 xs) _
  refine zm_J_run zm_T 2 (pc' := 19) (lv' := [(3, .int 0), (2, .int 1), (0, .ref 12), (1, .int 0)]) (st' := [.int 0]) (G' := (zh_11 xs)) rfl ?_
  refine zm_J_S (av := [.int 0]) (rest := []) (Q1 := fun z G => z = .inl (some (.int (-1))) ∧ G = (zh_11 xs)) (zm_T.1 79 19 _ rfl).1 zc_79_19 (Nat.le_of_ble_eq_true rfl) (Nat.le_of_ble_eq_true rfl) (Nat.le_of_ble_eq_true rfl) (Nat.le_of_ble_eq_true rfl) (zo2_122 N _ (by omega)) ?_ ?_
  rotate_left
  · intro x G' h; exact nomatch h.1
  intro v G' h
  obtain ⟨h1, rfl⟩ := h
  cases Sum.inl.inj h1
  show zm_J N _ 79 22 [(3, .int 0), (2, .int 1), (0, .ref 12), (1, .int 0)] [.int (-1)] (zh_11 xs) _
  refine zm_J_run zm_T 2 (pc' := 26) (lv' := [(4, .int (-1)), (3, .int 0), (2, .int 1), (0, .ref 12), (1, .int 0)]) (st' := [.int (-1)]) (G' := (zh_11 xs)) rfl ?_
  refine zm_J_run zm_T 1 (pc' := if ((-1) : Int32) < 0 then 62 else 29) (lv' := [(4, .int (-1)), (3, .int 0), (2, .int 1), (0, .ref 12), (1, .int 0)]) (st' := []) (G' := (zh_11 xs)) rfl ?_
  rw [if_pos (show ((-1) : Int32) < 0 by decide +kernel)]
  refine zm_J_run zm_T 1 (pc' := 63) (lv' := [(4, .int (-1)), (3, .int 0), (2, .int 1), (0, .ref 12), (1, .int 0)]) (st' := [.int 0]) (G' := (zh_11 xs)) rfl ?_
  exact zm_J_fin zm_T rfl rfl ⟨rfl, rfl⟩

def zh_12 (xs : Nat → Int32) : zm_H := ([.inl (0, 3, .inl xs), .inr (99, []), .inr (0, [.ref 3, .ref 6, .ref 11, .null, .int 0, .int 0, .int 0, .int 0, .int 0]), .inr (1, [.int 0, .int 0, .ref 4, .ref 5, .int 0, .int 0, .int 0, .int 1]), .inl (1, 40, .inl fun _ => 0), .inl (1, 4, .inl fun _ => 0), .inr (2, [.ref 7, .ref 8, .ref 9, .ref 10, .int 0, .int 0, .int 0]), .inr (3, [.int 1, .int 0, .null, .null, .null]), .inr (4, [.ref 1, .int 0, .int 0]), .inr (4, [.ref 1, .int 0, .int 0]), .inr (4, [.ref 1, .int 0, .int 0]), .inl (4, 6, .inr (.inr (.inr (.inr fun _ => none)))), .inr (5, [.ref 13, .ref 14, .ref 15, .ref 16, .ref 17, .ref 18, .ref 19, .ref 20, .int 0, .int 0, .int 0, .int 0, .int 0, .ref 21, .ref 22, .ref 23, .ref 24, .ref 25, .ref 26, .ref 27, .ref 28, .ref 29, .ref 30, .int 0, .int 0, .int 0, .ref 31, .ref 32, .ref 33, .ref 34, .ref 35, .int 0, .int 0, .int 0, .int 0, .int 0, .int 0, .int 0, .int 0, .int 0, .int 0, .int 0, .int 0, .int 0]), .inl (0, 40, .inl fun _ => 0), .inl (0, 21200, .inl fun _ => 0), .inl (0, 240, .inl fun _ => 0), .inl (0, 6, .inl fun _ => 0), .inl (0, 24, .inl fun _ => 0), .inl (0, 6, .inl fun _ => 0), .inl (0, 16, .inl (upd (fun _ => 0) 1 1)), .inl (3, 6, .inl fun _ => 0), .inl (0, 16400, .inl fun _ => 0), .inl (0, 16400, .inl fun _ => 0), .inl (0, 16400, .inl fun _ => 0), .inl (0, 16400, .inl fun _ => 0), .inl (0, 16400, .inl fun _ => 0), .inl (0, 16400, .inl fun _ => 0), .inl (0, 1700, .inl fun _ => 0), .inl (0, 1700, .inl fun _ => 0), .inl (0, 16400, .inl fun _ => 0), .inl (0, 16400, .inl fun _ => 0), .inl (0, 64, .inl fun _ => 0), .inl (0, 64, .inl fun _ => 0), .inl (0, 64, .inl fun _ => 0), .inl (0, 64, .inl fun _ => 0), .inl (0, 64, .inl fun _ => 0), .inl (2, 1, .inr (.inl fun _ => 0)), .inr (10, [])], 156597)
def zh_13 (xs : Nat → Int32) : zm_H := ([.inl (0, 3, .inl xs), .inr (99, []), .inr (0, [.ref 3, .ref 6, .ref 11, .null, .int 0, .int 0, .int 0, .int 0, .int 0]), .inr (1, [.int 0, .int 0, .ref 4, .ref 5, .int 0, .int 0, .int 0, .int 1]), .inl (1, 40, .inl fun _ => 0), .inl (1, 4, .inl fun _ => 0), .inr (2, [.ref 7, .ref 8, .ref 9, .ref 10, .int 0, .int 0, .int 0]), .inr (3, [.int 1, .int 0, .null, .null, .null]), .inr (4, [.ref 1, .int 0, .int 0]), .inr (4, [.ref 1, .int 0, .int 0]), .inr (4, [.ref 1, .int 0, .int 0]), .inl (4, 6, .inr (.inr (.inr (.inr fun _ => none)))), .inr (5, [.ref 13, .ref 14, .ref 15, .ref 16, .ref 17, .ref 18, .ref 19, .ref 20, .int 0, .int 0, .int 0, .int 0, .int 1, .ref 21, .ref 22, .ref 23, .ref 24, .ref 25, .ref 26, .ref 27, .ref 28, .ref 29, .ref 30, .int 0, .int 0, .int 0, .ref 31, .ref 32, .ref 33, .ref 34, .ref 35, .int 0, .int 0, .int 0, .int 0, .int 0, .int 0, .int 0, .int 0, .int 0, .int 0, .int 0, .int 0, .int 0]), .inl (0, 40, .inl fun _ => 0), .inl (0, 21200, .inl fun _ => 0), .inl (0, 240, .inl fun _ => 0), .inl (0, 6, .inl fun _ => 0), .inl (0, 24, .inl fun _ => 0), .inl (0, 6, .inl fun _ => 0), .inl (0, 16, .inl (upd (fun _ => 0) 1 1)), .inl (3, 6, .inl fun _ => 0), .inl (0, 16400, .inl fun _ => 0), .inl (0, 16400, .inl fun _ => 0), .inl (0, 16400, .inl fun _ => 0), .inl (0, 16400, .inl fun _ => 0), .inl (0, 16400, .inl fun _ => 0), .inl (0, 16400, .inl fun _ => 0), .inl (0, 1700, .inl fun _ => 0), .inl (0, 1700, .inl fun _ => 0), .inl (0, 16400, .inl fun _ => 0), .inl (0, 16400, .inl fun _ => 0), .inl (0, 64, .inl fun _ => 0), .inl (0, 64, .inl fun _ => 0), .inl (0, 64, .inl fun _ => 0), .inl (0, 64, .inl fun _ => 0), .inl (0, 64, .inl fun _ => 0), .inl (2, 1, .inr (.inl fun _ => 0)), .inr (10, [])], 156597)
set_option maxHeartbeats 40000000 in
set_option maxRecDepth 100000 in
/-- NeedMachineModel.bad -/
theorem zo2_124 {xs : Nat → Int32} (N : zm_N) (d : Nat) (hd : 1 ≤ d) : zm_J N d 74 0 [(0, .ref 12), (1, .int 0)] [] (zh_12 xs) (fun z G => z = .inl (some (.int 1)) ∧ G = (zh_13 xs)) := by
  obtain ⟨d, rfl⟩ : ∃ e, d = e + 1 := ⟨d - 1, by omega⟩
  refine zm_J_run zm_T 8 (pc' := 18) (lv' := [(0, .ref 12), (1, .int 0)]) (st' := [.int 1]) (G' := (zh_13 xs)) rfl ?_
  refine zm_J_run zm_T 1 (pc' := 22) (lv' := [(0, .ref 12), (1, .int 0)]) (st' := [.int 1]) (G' := (zh_13 xs)) rfl ?_
  exact zm_J_fin zm_T rfl rfl ⟨rfl, rfl⟩

set_option maxHeartbeats 40000000 in
set_option maxRecDepth 100000 in
/-- NeedMachineModel.ask -/
theorem zo2_125 {xs : Nat → Int32} (N : zm_N) (d : Nat) (hd : 4 ≤ d) : zm_J N d 82 0 [(0, .ref 12)] [] (zh_10 xs) (fun z G => z = .inl (some (.int 0)) ∧ G = (zh_13 xs)) := by
  obtain ⟨d, rfl⟩ : ∃ e, d = e + 1 := ⟨d - 1, by omega⟩
  refine zm_J_run zm_T 5 (pc' := 7) (lv' := [(0, .ref 12)]) (st' := [.int 0, .ref 12]) (G' := (zh_10 xs)) rfl ?_
  refine zm_J_V (a := 12) (av := [.int 0]) (rest := []) (Q1 := fun z G => z = .inl (some (.int 0)) ∧ G = (zh_11 xs)) (zm_T.1 82 7 _ rfl).1 zc_82_7 rfl (Nat.le_of_ble_eq_true rfl) (Nat.le_of_ble_eq_true rfl) (Nat.le_of_ble_eq_true rfl) (Nat.le_of_ble_eq_true rfl) (zo2_123 N _ (by omega)) ?_ ?_
  rotate_left
  · intro x G' h; exact nomatch h.1
  intro v G' h
  obtain ⟨h1, rfl⟩ := h
  cases Sum.inl.inj h1
  show zm_J N _ 82 10 [(0, .ref 12)] [.int 0] (zh_11 xs) _
  refine zm_J_run zm_T 8 (pc' := 24) (lv' := [(1, .int 0), (0, .ref 12)]) (st' := [.ref 12]) (G' := (zh_12 xs)) rfl ?_
  refine zm_J_run zm_T 1 (pc' := 25) (lv' := [(1, .int 0), (0, .ref 12)]) (st' := [.int 0, .ref 12]) (G' := (zh_12 xs)) rfl ?_
  refine zm_J_V (a := 12) (av := [.int 0]) (rest := []) (Q1 := fun z G => z = .inl (some (.int 1)) ∧ G = (zh_13 xs)) (zm_T.1 82 25 _ rfl).1 zc_82_25 rfl (Nat.le_of_ble_eq_true rfl) (Nat.le_of_ble_eq_true rfl) (Nat.le_of_ble_eq_true rfl) (Nat.le_of_ble_eq_true rfl) (zo2_124 N _ (by omega)) ?_ ?_
  rotate_left
  · intro x G' h; exact nomatch h.1
  intro v G' h
  obtain ⟨h1, rfl⟩ := h
  cases Sum.inl.inj h1
  show zm_J N _ 82 28 [(1, .int 0), (0, .ref 12)] [.int 1] (zh_13 xs) _
  refine zm_J_run zm_T 5 (pc' := 37) (lv' := [(1, .int 0), (0, .ref 12)]) (st' := [.int 0]) (G' := (zh_13 xs)) rfl ?_
  exact zm_J_fin zm_T rfl rfl ⟨rfl, rfl⟩

set_option maxHeartbeats 40000000 in
set_option maxRecDepth 100000 in
/-- NeedMachineModel.thrown -/
theorem zo2_126 {xs : Nat → Int32} (N : zm_N) (d : Nat) (hd : 1 ≤ d) : zm_J N d 71 0 [(0, .ref 12)] [] (zh_13 xs) (fun z G => z = .inl (some (.int 1)) ∧ G = (zh_13 xs)) := by
  obtain ⟨d, rfl⟩ : ∃ e, d = e + 1 := ⟨d - 1, by omega⟩
  refine zm_J_run zm_T 2 (pc' := 4) (lv' := [(0, .ref 12)]) (st' := [.int 1]) (G' := (zh_13 xs)) rfl ?_
  exact zm_J_fin zm_T rfl rfl ⟨rfl, rfl⟩

set_option maxHeartbeats 40000000 in
set_option maxRecDepth 100000 in
theorem zl_op2 {xs : Nat → Int32} (N : zm_N) (d : Nat) (hd : 13 ≤ d) : zm_J N d 0 39 [(4, .int 0), (3, .ref 36), (2, .ref 12), (1, .ref 2), (0, .ref 0)] [.int 2] (zh_0 xs) (fun z G => z = .inl (some (.int 1)) ∧ G = (zh_13 xs)) := by
  obtain ⟨d, rfl⟩ : ∃ e, d = e + 1 := ⟨d - 1, by omega⟩
  refine zm_J_run zm_T 3 (pc' := 218) (lv' := [(4, .int 0), (3, .ref 36), (2, .ref 12), (1, .ref 2), (0, .ref 0)]) (st' := [.ref 36, .ref 2]) (G' := (zh_0 xs)) rfl ?_
  refine zm_J_S (av := [.ref 2, .ref 36]) (rest := []) (Q1 := fun z G => z = .inl (some (.int 1)) ∧ G = (zh_10 xs)) (zm_T.1 0 218 _ rfl).1 zc_0_218 (Nat.le_of_ble_eq_true rfl) (Nat.le_of_ble_eq_true rfl) (Nat.le_of_ble_eq_true rfl) (Nat.le_of_ble_eq_true rfl) (zo2_117 N _ (by omega)) ?_ ?_
  rotate_left
  · intro x G' h; exact nomatch h.1
  intro v G' h
  obtain ⟨h1, rfl⟩ := h
  cases Sum.inl.inj h1
  show zm_J N _ 0 221 [(4, .int 0), (3, .ref 36), (2, .ref 12), (1, .ref 2), (0, .ref 0)] [.int 1] (zh_10 xs) _
  refine zm_J_run zm_T 2 (pc' := 224) (lv' := [(5, .int 1), (4, .int 0), (3, .ref 36), (2, .ref 12), (1, .ref 2), (0, .ref 0)]) (st' := [.ref 12]) (G' := (zh_10 xs)) rfl ?_
  refine zm_J_V (a := 12) (av := []) (rest := []) (Q1 := fun z G => z = .inl (some (.int 0)) ∧ G = (zh_13 xs)) (zm_T.1 0 224 _ rfl).1 zc_0_224 rfl (Nat.le_of_ble_eq_true rfl) (Nat.le_of_ble_eq_true rfl) (Nat.le_of_ble_eq_true rfl) (Nat.le_of_ble_eq_true rfl) (zo2_125 N _ (by omega)) ?_ ?_
  rotate_left
  · intro x G' h; exact nomatch h.1
  intro v G' h
  obtain ⟨h1, rfl⟩ := h
  cases Sum.inl.inj h1
  show zm_J N _ 0 227 [(5, .int 1), (4, .int 0), (3, .ref 36), (2, .ref 12), (1, .ref 2), (0, .ref 0)] [.int 0] (zh_13 xs) _
  refine zm_J_run zm_T 2 (pc' := 230) (lv' := [(6, .int 0), (5, .int 1), (4, .int 0), (3, .ref 36), (2, .ref 12), (1, .ref 2), (0, .ref 0)]) (st' := [.ref 12]) (G' := (zh_13 xs)) rfl ?_
  refine zm_J_V (a := 12) (av := []) (rest := []) (Q1 := fun z G => z = .inl (some (.int 1)) ∧ G = (zh_13 xs)) (zm_T.1 0 230 _ rfl).1 zc_0_230 rfl (Nat.le_of_ble_eq_true rfl) (Nat.le_of_ble_eq_true rfl) (Nat.le_of_ble_eq_true rfl) (Nat.le_of_ble_eq_true rfl) (zo2_126 N _ (by omega)) ?_ ?_
  rotate_left
  · intro x G' h; exact nomatch h.1
  intro v G' h
  obtain ⟨h1, rfl⟩ := h
  cases Sum.inl.inj h1
  show zm_J N _ 0 233 [(6, .int 0), (5, .int 1), (4, .int 0), (3, .ref 36), (2, .ref 12), (1, .ref 2), (0, .ref 0)] [.int 1] (zh_13 xs) _
  refine zm_J_run zm_T 8 (pc' := 25) (lv' := [(4, .int 3), (6, .int 0), (5, .int 1), (3, .ref 36), (2, .ref 12), (1, .ref 2), (0, .ref 0)]) (st' := [.int 3]) (G' := (zh_13 xs)) rfl ?_
  refine zm_J_run zm_T 4 (pc' := 29) (lv' := [(4, .int 3), (6, .int 0), (5, .int 1), (3, .ref 36), (2, .ref 12), (1, .ref 2), (0, .ref 0)]) (st' := [.int (3 - 3), .int 3]) (G' := (zh_13 xs)) rfl ?_
  refine zm_J_run zm_T 1 (pc' := if ((3 - 3) : Int32) < 3 then 459 else 32) (lv' := [(4, .int 3), (6, .int 0), (5, .int 1), (3, .ref 36), (2, .ref 12), (1, .ref 2), (0, .ref 0)]) (st' := []) (G' := (zh_13 xs)) rfl ?_
  rw [if_pos (show ((3 - 3) : Int32) < 3 by decide +kernel)]
  refine zm_J_run zm_T 1 (pc' := 460) (lv' := [(4, .int 3), (6, .int 0), (5, .int 1), (3, .ref 36), (2, .ref 12), (1, .ref 2), (0, .ref 0)]) (st' := [.int 1]) (G' := (zh_13 xs)) rfl ?_
  exact zm_J_fin zm_T rfl rfl ⟨rfl, rfl⟩

def zh_14 (xs : Nat → Int32) : zm_H := ([.inl (0, 3, .inl xs), .inr (99, []), .inr (0, [.ref 3, .ref 6, .ref 11, .null, .int 0, .int 0, .int 0, .int 0, .int 0]), .inr (1, [.int 0, .int (-1), .ref 4, .ref 5, .int 0, .int 0, .int 0, .int 0]), .inl (1, 40, .inl fun _ => 0), .inl (1, 4, .inl fun _ => 0), .inr (2, [.ref 7, .ref 8, .ref 9, .ref 10, .int 0, .int 0, .int 0]), .inr (3, [.int 1, .int 0, .null, .null, .null]), .inr (4, [.ref 1, .int 0, .int 0]), .inr (4, [.ref 1, .int 0, .int 0]), .inr (4, [.ref 1, .int 0, .int 0]), .inl (4, 6, .inr (.inr (.inr (.inr fun _ => none)))), .inr (5, [.ref 13, .ref 14, .ref 15, .ref 16, .ref 17, .ref 18, .ref 19, .ref 20, .int 0, .int (-1), .int 0, .int 0, .int 0, .ref 21, .ref 22, .ref 23, .ref 24, .ref 25, .ref 26, .ref 27, .ref 28, .ref 29, .ref 30, .int 0, .int 0, .int 0, .ref 31, .ref 32, .ref 33, .ref 34, .ref 35, .int 0, .int 0, .int 0, .int 0, .int 0, .int 0, .int 0, .int 0, .int 0, .int 0, .int 0, .int 0, .int 0]), .inl (0, 40, .inl fun _ => 0), .inl (0, 21200, .inl fun _ => 0), .inl (0, 240, .inl fun _ => 0), .inl (0, 6, .inl fun _ => 0), .inl (0, 24, .inl fun _ => 0), .inl (0, 6, .inl fun _ => 0), .inl (0, 16, .inl fun _ => 0), .inl (3, 6, .inl fun _ => 0), .inl (0, 16400, .inl fun _ => 0), .inl (0, 16400, .inl fun _ => 0), .inl (0, 16400, .inl fun _ => 0), .inl (0, 16400, .inl fun _ => 0), .inl (0, 16400, .inl fun _ => 0), .inl (0, 16400, .inl fun _ => 0), .inl (0, 1700, .inl fun _ => 0), .inl (0, 1700, .inl fun _ => 0), .inl (0, 16400, .inl fun _ => 0), .inl (0, 16400, .inl fun _ => 0), .inl (0, 64, .inl fun _ => 0), .inl (0, 64, .inl fun _ => 0), .inl (0, 64, .inl fun _ => 0), .inl (0, 64, .inl fun _ => 0), .inl (0, 64, .inl fun _ => 0), .inl (2, 1, .inr (.inl fun _ => 0)), .inr (10, [])], 156597)
set_option maxHeartbeats 40000000 in
set_option maxRecDepth 100000 in
/-- NeedMachine.number -/
theorem zo3_127 {xs : Nat → Int32} (N : zm_N) (d : Nat) (hd : 7 ≤ d) : zm_J N d 62 0 [(0, .ref 2)] [] (zh_0 xs) (fun z G => z = .inr (2, 37) ∧ G = (zh_14 xs)) := by
  obtain ⟨d, rfl⟩ : ∃ e, d = e + 1 := ⟨d - 1, by omega⟩
  refine zm_J_run zm_T 3 (pc' := 7) (lv' := [(0, .ref 2)]) (st' := []) (G' := (zh_0 xs)) rfl ?_
  exact zm_J_throw zx_62_7 (by omega) (Nat.le_of_ble_eq_true rfl) rfl ⟨rfl, rfl⟩

set_option maxHeartbeats 40000000 in
set_option maxRecDepth 100000 in
/-- NeedMachineLaw.number -/
theorem zo3_128 {xs : Nat → Int32} (N : zm_N) (d : Nat) (hd : 8 ≤ d) : zm_J N d 61 0 [(0, .ref 2), (1, .ref 36)] [] (zh_0 xs) (fun z G => z = .inl (some (.int 1)) ∧ G = (zh_14 xs)) := by
  obtain ⟨d, rfl⟩ : ∃ e, d = e + 1 := ⟨d - 1, by omega⟩
  refine zm_J_run zm_T 3 (pc' := 3) (lv' := [(0, .ref 2), (1, .ref 36)]) (st' := [.ref 2, .int 0, .ref 36]) (G' := (zh_0 xs)) rfl ?_
  refine zm_J_V (a := 2) (av := []) (rest := [.int 0, .ref 36]) (Q1 := fun z G => z = .inr (2, 37) ∧ G = (zh_14 xs)) (zm_T.1 61 3 _ rfl).1 zc_61_3 rfl (Nat.le_of_ble_eq_true rfl) (Nat.le_of_ble_eq_true rfl) (Nat.le_of_ble_eq_true rfl) (Nat.le_of_ble_eq_true rfl) (zo3_127 N _ (by omega)) ?_ ?_
  · intro v G' h; exact nomatch h.1
  intro x G' h
  obtain ⟨h1, rfl⟩ := h
  cases Sum.inr.inj h1
  refine Or.inr ⟨11, zt_61_2, ?_⟩
  show zm_J N _ 61 11 [(0, .ref 2), (1, .ref 36)] [.ref 37] (zh_14 xs) _
  refine zm_J_run zm_T 2 (pc' := 13) (lv' := [(2, .ref 37), (0, .ref 2), (1, .ref 36)]) (st' := [.int 1]) (G' := (zh_14 xs)) rfl ?_
  exact zm_J_fin zm_T rfl rfl ⟨rfl, rfl⟩

def zh_15 (xs : Nat → Int32) : zm_H := ([.inl (0, 3, .inl xs), .inr (99, []), .inr (0, [.ref 3, .ref 6, .ref 11, .null, .int 0, .int 0, .int 0, .int 0, .int 0]), .inr (1, [.int 0, .int (-1), .ref 4, .ref 5, .int 0, .int 0, .int 0, .int 0]), .inl (1, 40, .inl fun _ => 0), .inl (1, 4, .inl fun _ => 0), .inr (2, [.ref 7, .ref 8, .ref 9, .ref 10, .int 0, .int 0, .int 0]), .inr (3, [.int 1, .int 0, .null, .null, .null]), .inr (4, [.ref 1, .int 0, .int 0]), .inr (4, [.ref 1, .int 0, .int 0]), .inr (4, [.ref 1, .int 0, .int 0]), .inl (4, 6, .inr (.inr (.inr (.inr fun _ => none)))), .inr (5, [.ref 13, .ref 14, .ref 15, .ref 16, .ref 17, .ref 18, .ref 19, .ref 20, .int 0, .int (-1), .int 0, .int 0, .int 1, .ref 21, .ref 22, .ref 23, .ref 24, .ref 25, .ref 26, .ref 27, .ref 28, .ref 29, .ref 30, .int 0, .int 0, .int 0, .ref 31, .ref 32, .ref 33, .ref 34, .ref 35, .int 0, .int 0, .int 0, .int 0, .int 0, .int 0, .int 0, .int 0, .int 0, .int 0, .int 0, .int 0, .int 0]), .inl (0, 40, .inl fun _ => 0), .inl (0, 21200, .inl fun _ => 0), .inl (0, 240, .inl fun _ => 0), .inl (0, 6, .inl fun _ => 0), .inl (0, 24, .inl fun _ => 0), .inl (0, 6, .inl fun _ => 0), .inl (0, 16, .inl fun _ => 0), .inl (3, 6, .inl fun _ => 0), .inl (0, 16400, .inl fun _ => 0), .inl (0, 16400, .inl fun _ => 0), .inl (0, 16400, .inl fun _ => 0), .inl (0, 16400, .inl fun _ => 0), .inl (0, 16400, .inl fun _ => 0), .inl (0, 16400, .inl fun _ => 0), .inl (0, 1700, .inl fun _ => 0), .inl (0, 1700, .inl fun _ => 0), .inl (0, 16400, .inl fun _ => 0), .inl (0, 16400, .inl fun _ => 0), .inl (0, 64, .inl fun _ => 0), .inl (0, 64, .inl fun _ => 0), .inl (0, 64, .inl fun _ => 0), .inl (0, 64, .inl fun _ => 0), .inl (0, 64, .inl fun _ => 0), .inl (2, 1, .inr (.inl fun _ => 0)), .inr (10, [])], 156597)
set_option maxHeartbeats 40000000 in
set_option maxRecDepth 100000 in
/-- NeedMachineModel.number -/
theorem zo3_129 {xs : Nat → Int32} (N : zm_N) (d : Nat) (hd : 1 ≤ d) : zm_J N d 102 0 [(0, .ref 12)] [] (zh_14 xs) (fun z G => z = .inl (some (.int 0)) ∧ G = (zh_15 xs)) := by
  obtain ⟨d, rfl⟩ : ∃ e, d = e + 1 := ⟨d - 1, by omega⟩
  refine zm_J_run zm_T 8 (pc' := 28) (lv' := [(0, .ref 12)]) (st' := [.ref 12]) (G' := (zh_15 xs)) rfl ?_
  refine zm_J_run zm_T 1 (pc' := 31) (lv' := [(0, .ref 12)]) (st' := [.int 1]) (G' := (zh_15 xs)) rfl ?_
  refine zm_J_run zm_T 1 (pc' := if (1 : Int32) ≤ 0 then 38 else 34) (lv' := [(0, .ref 12)]) (st' := []) (G' := (zh_15 xs)) rfl ?_
  rw [if_neg (show ¬ ((1 : Int32) ≤ 0) by decide +kernel)]
  refine zm_J_run zm_T 2 (pc' := 42) (lv' := [(0, .ref 12)]) (st' := [.int 0]) (G' := (zh_15 xs)) rfl ?_
  exact zm_J_fin zm_T rfl rfl ⟨rfl, rfl⟩

set_option maxHeartbeats 40000000 in
set_option maxRecDepth 100000 in
/-- NeedMachineModel.thrown -/
theorem zo3_130 {xs : Nat → Int32} (N : zm_N) (d : Nat) (hd : 1 ≤ d) : zm_J N d 71 0 [(0, .ref 12)] [] (zh_15 xs) (fun z G => z = .inl (some (.int 1)) ∧ G = (zh_15 xs)) := by
  obtain ⟨d, rfl⟩ : ∃ e, d = e + 1 := ⟨d - 1, by omega⟩
  refine zm_J_run zm_T 2 (pc' := 4) (lv' := [(0, .ref 12)]) (st' := [.int 1]) (G' := (zh_15 xs)) rfl ?_
  exact zm_J_fin zm_T rfl rfl ⟨rfl, rfl⟩

set_option maxHeartbeats 40000000 in
set_option maxRecDepth 100000 in
theorem zl_op3 {xs : Nat → Int32} (N : zm_N) (d : Nat) (hd : 9 ≤ d) : zm_J N d 0 39 [(4, .int 0), (3, .ref 36), (2, .ref 12), (1, .ref 2), (0, .ref 0)] [.int 3] (zh_0 xs) (fun z G => z = .inl (some (.int 1)) ∧ G = (zh_15 xs)) := by
  obtain ⟨d, rfl⟩ : ∃ e, d = e + 1 := ⟨d - 1, by omega⟩
  refine zm_J_run zm_T 3 (pc' := 262) (lv' := [(4, .int 0), (3, .ref 36), (2, .ref 12), (1, .ref 2), (0, .ref 0)]) (st' := [.ref 36, .ref 2]) (G' := (zh_0 xs)) rfl ?_
  refine zm_J_S (av := [.ref 2, .ref 36]) (rest := []) (Q1 := fun z G => z = .inl (some (.int 1)) ∧ G = (zh_14 xs)) (zm_T.1 0 262 _ rfl).1 zc_0_262 (Nat.le_of_ble_eq_true rfl) (Nat.le_of_ble_eq_true rfl) (Nat.le_of_ble_eq_true rfl) (Nat.le_of_ble_eq_true rfl) (zo3_128 N _ (by omega)) ?_ ?_
  rotate_left
  · intro x G' h; exact nomatch h.1
  intro v G' h
  obtain ⟨h1, rfl⟩ := h
  cases Sum.inl.inj h1
  show zm_J N _ 0 265 [(4, .int 0), (3, .ref 36), (2, .ref 12), (1, .ref 2), (0, .ref 0)] [.int 1] (zh_14 xs) _
  refine zm_J_run zm_T 2 (pc' := 268) (lv' := [(5, .int 1), (4, .int 0), (3, .ref 36), (2, .ref 12), (1, .ref 2), (0, .ref 0)]) (st' := [.ref 12]) (G' := (zh_14 xs)) rfl ?_
  refine zm_J_V (a := 12) (av := []) (rest := []) (Q1 := fun z G => z = .inl (some (.int 0)) ∧ G = (zh_15 xs)) (zm_T.1 0 268 _ rfl).1 zc_0_268 rfl (Nat.le_of_ble_eq_true rfl) (Nat.le_of_ble_eq_true rfl) (Nat.le_of_ble_eq_true rfl) (Nat.le_of_ble_eq_true rfl) (zo3_129 N _ (by omega)) ?_ ?_
  rotate_left
  · intro x G' h; exact nomatch h.1
  intro v G' h
  obtain ⟨h1, rfl⟩ := h
  cases Sum.inl.inj h1
  show zm_J N _ 0 271 [(5, .int 1), (4, .int 0), (3, .ref 36), (2, .ref 12), (1, .ref 2), (0, .ref 0)] [.int 0] (zh_15 xs) _
  refine zm_J_run zm_T 2 (pc' := 274) (lv' := [(6, .int 0), (5, .int 1), (4, .int 0), (3, .ref 36), (2, .ref 12), (1, .ref 2), (0, .ref 0)]) (st' := [.ref 12]) (G' := (zh_15 xs)) rfl ?_
  refine zm_J_V (a := 12) (av := []) (rest := []) (Q1 := fun z G => z = .inl (some (.int 1)) ∧ G = (zh_15 xs)) (zm_T.1 0 274 _ rfl).1 zc_0_274 rfl (Nat.le_of_ble_eq_true rfl) (Nat.le_of_ble_eq_true rfl) (Nat.le_of_ble_eq_true rfl) (Nat.le_of_ble_eq_true rfl) (zo3_130 N _ (by omega)) ?_ ?_
  rotate_left
  · intro x G' h; exact nomatch h.1
  intro v G' h
  obtain ⟨h1, rfl⟩ := h
  cases Sum.inl.inj h1
  show zm_J N _ 0 277 [(6, .int 0), (5, .int 1), (4, .int 0), (3, .ref 36), (2, .ref 12), (1, .ref 2), (0, .ref 0)] [.int 1] (zh_15 xs) _
  refine zm_J_run zm_T 8 (pc' := 25) (lv' := [(4, .int 3), (6, .int 0), (5, .int 1), (3, .ref 36), (2, .ref 12), (1, .ref 2), (0, .ref 0)]) (st' := [.int 3]) (G' := (zh_15 xs)) rfl ?_
  refine zm_J_run zm_T 4 (pc' := 29) (lv' := [(4, .int 3), (6, .int 0), (5, .int 1), (3, .ref 36), (2, .ref 12), (1, .ref 2), (0, .ref 0)]) (st' := [.int (3 - 3), .int 3]) (G' := (zh_15 xs)) rfl ?_
  refine zm_J_run zm_T 1 (pc' := if ((3 - 3) : Int32) < 3 then 459 else 32) (lv' := [(4, .int 3), (6, .int 0), (5, .int 1), (3, .ref 36), (2, .ref 12), (1, .ref 2), (0, .ref 0)]) (st' := []) (G' := (zh_15 xs)) rfl ?_
  rw [if_pos (show ((3 - 3) : Int32) < 3 by decide +kernel)]
  refine zm_J_run zm_T 1 (pc' := 460) (lv' := [(4, .int 3), (6, .int 0), (5, .int 1), (3, .ref 36), (2, .ref 12), (1, .ref 2), (0, .ref 0)]) (st' := [.int 1]) (G' := (zh_15 xs)) rfl ?_
  exact zm_J_fin zm_T rfl rfl ⟨rfl, rfl⟩

set_option maxHeartbeats 40000000 in
set_option maxRecDepth 100000 in
/-- NeedMachine.takeResultPair -/
theorem zo4_131 {xs : Nat → Int32} (N : zm_N) (d : Nat) (hd : 7 ≤ d) : zm_J N d 65 0 [(0, .ref 2)] [] (zh_0 xs) (fun z G => z = .inr (2, 37) ∧ G = (zh_14 xs)) := by
  obtain ⟨d, rfl⟩ : ∃ e, d = e + 1 := ⟨d - 1, by omega⟩
  refine zm_J_run zm_T 8 (pc' := 14) (lv' := [(1, .null), (0, .ref 2)]) (st' := []) (G' := (zh_0 xs)) rfl ?_
  exact zm_J_throw zx_65_14 (by omega) (Nat.le_of_ble_eq_true rfl) rfl ⟨rfl, rfl⟩

set_option maxHeartbeats 40000000 in
set_option maxRecDepth 100000 in
/-- NeedMachine.head -/
theorem zo4_132 {xs : Nat → Int32} (N : zm_N) (d : Nat) (hd : 8 ≤ d) : zm_J N d 64 0 [(0, .ref 2)] [] (zh_0 xs) (fun z G => z = .inr (2, 37) ∧ G = (zh_14 xs)) := by
  obtain ⟨d, rfl⟩ : ∃ e, d = e + 1 := ⟨d - 1, by omega⟩
  refine zm_J_run zm_T 1 (pc' := 1) (lv' := [(0, .ref 2)]) (st' := [.ref 2]) (G' := (zh_0 xs)) rfl ?_
  refine zm_J_V (a := 2) (av := []) (rest := []) (Q1 := fun z G => z = .inr (2, 37) ∧ G = (zh_14 xs)) (zm_T.1 64 1 _ rfl).1 zc_64_1 rfl (Nat.le_of_ble_eq_true rfl) (Nat.le_of_ble_eq_true rfl) (Nat.le_of_ble_eq_true rfl) (Nat.le_of_ble_eq_true rfl) (zo4_131 N _ (by omega)) ?_ ?_
  · intro v G' h; exact nomatch h.1
  intro x G' h
  obtain ⟨h1, rfl⟩ := h
  cases Sum.inr.inj h1
  exact Or.inl ⟨zm_out0 rfl, rfl, rfl⟩

set_option maxHeartbeats 40000000 in
set_option maxRecDepth 100000 in
/-- NeedMachineLaw.head -/
theorem zo4_133 {xs : Nat → Int32} (N : zm_N) (d : Nat) (hd : 9 ≤ d) : zm_J N d 63 0 [(0, .ref 2), (1, .ref 36)] [] (zh_0 xs) (fun z G => z = .inl (some (.int 1)) ∧ G = (zh_14 xs)) := by
  obtain ⟨d, rfl⟩ : ∃ e, d = e + 1 := ⟨d - 1, by omega⟩
  refine zm_J_run zm_T 3 (pc' := 3) (lv' := [(0, .ref 2), (1, .ref 36)]) (st' := [.ref 2, .int 0, .ref 36]) (G' := (zh_0 xs)) rfl ?_
  refine zm_J_V (a := 2) (av := []) (rest := [.int 0, .ref 36]) (Q1 := fun z G => z = .inr (2, 37) ∧ G = (zh_14 xs)) (zm_T.1 63 3 _ rfl).1 zc_63_3 rfl (Nat.le_of_ble_eq_true rfl) (Nat.le_of_ble_eq_true rfl) (Nat.le_of_ble_eq_true rfl) (Nat.le_of_ble_eq_true rfl) (zo4_132 N _ (by omega)) ?_ ?_
  · intro v G' h; exact nomatch h.1
  intro x G' h
  obtain ⟨h1, rfl⟩ := h
  cases Sum.inr.inj h1
  refine Or.inr ⟨11, zt_63_2, ?_⟩
  show zm_J N _ 63 11 [(0, .ref 2), (1, .ref 36)] [.ref 37] (zh_14 xs) _
  refine zm_J_run zm_T 2 (pc' := 13) (lv' := [(2, .ref 37), (0, .ref 2), (1, .ref 36)]) (st' := [.int 1]) (G' := (zh_14 xs)) rfl ?_
  exact zm_J_fin zm_T rfl rfl ⟨rfl, rfl⟩

def zh_16 (xs : Nat → Int32) : zm_H := ([.inl (0, 3, .inl xs), .inr (99, []), .inr (0, [.ref 3, .ref 6, .ref 11, .null, .int 0, .int 0, .int 0, .int 0, .int 0]), .inr (1, [.int 0, .int (-1), .ref 4, .ref 5, .int 0, .int 0, .int 0, .int 0]), .inl (1, 40, .inl fun _ => 0), .inl (1, 4, .inl fun _ => 0), .inr (2, [.ref 7, .ref 8, .ref 9, .ref 10, .int 0, .int 0, .int 0]), .inr (3, [.int 1, .int 0, .null, .null, .null]), .inr (4, [.ref 1, .int 0, .int 0]), .inr (4, [.ref 1, .int 0, .int 0]), .inr (4, [.ref 1, .int 0, .int 0]), .inl (4, 6, .inr (.inr (.inr (.inr fun _ => none)))), .inr (5, [.ref 13, .ref 14, .ref 15, .ref 16, .ref 17, .ref 18, .ref 19, .ref 20, .int 0, .int (-1), .int 0, .int 0, .int 2, .ref 21, .ref 22, .ref 23, .ref 24, .ref 25, .ref 26, .ref 27, .ref 28, .ref 29, .ref 30, .int 0, .int 0, .int 0, .ref 31, .ref 32, .ref 33, .ref 34, .ref 35, .int 0, .int 0, .int 0, .int 0, .int 0, .int 0, .int 0, .int 0, .int 0, .int 0, .int 0, .int 0, .int 0]), .inl (0, 40, .inl fun _ => 0), .inl (0, 21200, .inl fun _ => 0), .inl (0, 240, .inl fun _ => 0), .inl (0, 6, .inl fun _ => 0), .inl (0, 24, .inl fun _ => 0), .inl (0, 6, .inl fun _ => 0), .inl (0, 16, .inl fun _ => 0), .inl (3, 6, .inl fun _ => 0), .inl (0, 16400, .inl fun _ => 0), .inl (0, 16400, .inl fun _ => 0), .inl (0, 16400, .inl fun _ => 0), .inl (0, 16400, .inl fun _ => 0), .inl (0, 16400, .inl fun _ => 0), .inl (0, 16400, .inl fun _ => 0), .inl (0, 1700, .inl fun _ => 0), .inl (0, 1700, .inl fun _ => 0), .inl (0, 16400, .inl fun _ => 0), .inl (0, 16400, .inl fun _ => 0), .inl (0, 64, .inl fun _ => 0), .inl (0, 64, .inl fun _ => 0), .inl (0, 64, .inl fun _ => 0), .inl (0, 64, .inl fun _ => 0), .inl (0, 64, .inl fun _ => 0), .inl (2, 1, .inr (.inl fun _ => 0)), .inr (10, [])], 156597)
def zh_17 (xs : Nat → Int32) : zm_H := ([.inl (0, 3, .inl xs), .inr (99, []), .inr (0, [.ref 3, .ref 6, .ref 11, .null, .int 0, .int 0, .int 0, .int 0, .int 0]), .inr (1, [.int 0, .int (-1), .ref 4, .ref 5, .int 0, .int 0, .int 0, .int 0]), .inl (1, 40, .inl fun _ => 0), .inl (1, 4, .inl fun _ => 0), .inr (2, [.ref 7, .ref 8, .ref 9, .ref 10, .int 0, .int 0, .int 0]), .inr (3, [.int 1, .int 0, .null, .null, .null]), .inr (4, [.ref 1, .int 0, .int 0]), .inr (4, [.ref 1, .int 0, .int 0]), .inr (4, [.ref 1, .int 0, .int 0]), .inl (4, 6, .inr (.inr (.inr (.inr fun _ => none)))), .inr (5, [.ref 13, .ref 14, .ref 15, .ref 16, .ref 17, .ref 18, .ref 19, .ref 20, .int 0, .int (-1), .int 0, .int 0, .int (2 - 1), .ref 21, .ref 22, .ref 23, .ref 24, .ref 25, .ref 26, .ref 27, .ref 28, .ref 29, .ref 30, .int 0, .int 0, .int 0, .ref 31, .ref 32, .ref 33, .ref 34, .ref 35, .int 0, .int 0, .int 0, .int 0, .int 0, .int 0, .int 0, .int 0, .int 0, .int 0, .int 0, .int 0, .int 0]), .inl (0, 40, .inl fun _ => 0), .inl (0, 21200, .inl fun _ => 0), .inl (0, 240, .inl fun _ => 0), .inl (0, 6, .inl fun _ => 0), .inl (0, 24, .inl fun _ => 0), .inl (0, 6, .inl fun _ => 0), .inl (0, 16, .inl fun _ => 0), .inl (3, 6, .inl fun _ => 0), .inl (0, 16400, .inl fun _ => 0), .inl (0, 16400, .inl fun _ => 0), .inl (0, 16400, .inl fun _ => 0), .inl (0, 16400, .inl fun _ => 0), .inl (0, 16400, .inl fun _ => 0), .inl (0, 16400, .inl fun _ => 0), .inl (0, 1700, .inl fun _ => 0), .inl (0, 1700, .inl fun _ => 0), .inl (0, 16400, .inl fun _ => 0), .inl (0, 16400, .inl fun _ => 0), .inl (0, 64, .inl fun _ => 0), .inl (0, 64, .inl fun _ => 0), .inl (0, 64, .inl fun _ => 0), .inl (0, 64, .inl fun _ => 0), .inl (0, 64, .inl fun _ => 0), .inl (2, 1, .inr (.inl fun _ => 0)), .inr (10, [])], 156597)
set_option maxHeartbeats 40000000 in
set_option maxRecDepth 100000 in
/-- NeedMachineModel.side -/
theorem zo4_134 {xs : Nat → Int32} (N : zm_N) (d : Nat) (hd : 1 ≤ d) : zm_J N d 104 0 [(0, .ref 12), (1, .int 1)] [] (zh_14 xs) (fun z G => z = .inl (some (.int 0)) ∧ G = (zh_17 xs)) := by
  obtain ⟨d, rfl⟩ : ∃ e, d = e + 1 := ⟨d - 1, by omega⟩
  refine zm_J_run zm_T 8 (pc' := 37) (lv' := [(0, .ref 12), (1, .int 1)]) (st' := [.ref 12]) (G' := (zh_16 xs)) rfl ?_
  refine zm_J_run zm_T 8 (pc' := 219) (lv' := [(0, .ref 12), (1, .int 1)]) (st' := [.int 2, .ref 12]) (G' := (zh_16 xs)) rfl ?_
  refine zm_J_run zm_T 7 (pc' := 230) (lv' := [(0, .ref 12), (1, .int 1)]) (st' := [.int 0]) (G' := (zh_17 xs)) rfl ?_
  exact zm_J_fin zm_T rfl rfl ⟨rfl, rfl⟩

set_option maxHeartbeats 40000000 in
set_option maxRecDepth 100000 in
/-- NeedMachineModel.head -/
theorem zo4_135 {xs : Nat → Int32} (N : zm_N) (d : Nat) (hd : 2 ≤ d) : zm_J N d 103 0 [(0, .ref 12)] [] (zh_14 xs) (fun z G => z = .inl (some (.int 0)) ∧ G = (zh_17 xs)) := by
  obtain ⟨d, rfl⟩ : ∃ e, d = e + 1 := ⟨d - 1, by omega⟩
  refine zm_J_run zm_T 2 (pc' := 2) (lv' := [(0, .ref 12)]) (st' := [.int 1, .ref 12]) (G' := (zh_14 xs)) rfl ?_
  refine zm_J_V (a := 12) (av := [.int 1]) (rest := []) (Q1 := fun z G => z = .inl (some (.int 0)) ∧ G = (zh_17 xs)) (zm_T.1 103 2 _ rfl).1 zc_103_2 rfl (Nat.le_of_ble_eq_true rfl) (Nat.le_of_ble_eq_true rfl) (Nat.le_of_ble_eq_true rfl) (Nat.le_of_ble_eq_true rfl) (zo4_134 N _ (by omega)) ?_ ?_
  rotate_left
  · intro x G' h; exact nomatch h.1
  intro v G' h
  obtain ⟨h1, rfl⟩ := h
  cases Sum.inl.inj h1
  show zm_J N _ 103 5 [(0, .ref 12)] [.int 0] (zh_17 xs) _
  refine zm_J_run zm_T 2 (pc' := 16) (lv' := [(0, .ref 12)]) (st' := [.int 0]) (G' := (zh_17 xs)) rfl ?_
  exact zm_J_fin zm_T rfl rfl ⟨rfl, rfl⟩

set_option maxHeartbeats 40000000 in
set_option maxRecDepth 100000 in
/-- NeedMachineModel.thrown -/
theorem zo4_136 {xs : Nat → Int32} (N : zm_N) (d : Nat) (hd : 1 ≤ d) : zm_J N d 71 0 [(0, .ref 12)] [] (zh_17 xs) (fun z G => z = .inl (some (.int (2 - 1))) ∧ G = (zh_17 xs)) := by
  obtain ⟨d, rfl⟩ : ∃ e, d = e + 1 := ⟨d - 1, by omega⟩
  refine zm_J_run zm_T 2 (pc' := 4) (lv' := [(0, .ref 12)]) (st' := [.int (2 - 1)]) (G' := (zh_17 xs)) rfl ?_
  exact zm_J_fin zm_T rfl rfl ⟨rfl, rfl⟩

set_option maxHeartbeats 40000000 in
set_option maxRecDepth 100000 in
theorem zl_op4 {xs : Nat → Int32} (N : zm_N) (d : Nat) (hd : 10 ≤ d) : zm_J N d 0 39 [(4, .int 0), (3, .ref 36), (2, .ref 12), (1, .ref 2), (0, .ref 0)] [.int 4] (zh_0 xs) (fun z G => z = .inl (some (.int 1)) ∧ G = (zh_17 xs)) := by
  obtain ⟨d, rfl⟩ : ∃ e, d = e + 1 := ⟨d - 1, by omega⟩
  refine zm_J_run zm_T 3 (pc' := 306) (lv' := [(4, .int 0), (3, .ref 36), (2, .ref 12), (1, .ref 2), (0, .ref 0)]) (st' := [.ref 36, .ref 2]) (G' := (zh_0 xs)) rfl ?_
  refine zm_J_S (av := [.ref 2, .ref 36]) (rest := []) (Q1 := fun z G => z = .inl (some (.int 1)) ∧ G = (zh_14 xs)) (zm_T.1 0 306 _ rfl).1 zc_0_306 (Nat.le_of_ble_eq_true rfl) (Nat.le_of_ble_eq_true rfl) (Nat.le_of_ble_eq_true rfl) (Nat.le_of_ble_eq_true rfl) (zo4_133 N _ (by omega)) ?_ ?_
  rotate_left
  · intro x G' h; exact nomatch h.1
  intro v G' h
  obtain ⟨h1, rfl⟩ := h
  cases Sum.inl.inj h1
  show zm_J N _ 0 309 [(4, .int 0), (3, .ref 36), (2, .ref 12), (1, .ref 2), (0, .ref 0)] [.int 1] (zh_14 xs) _
  refine zm_J_run zm_T 2 (pc' := 312) (lv' := [(5, .int 1), (4, .int 0), (3, .ref 36), (2, .ref 12), (1, .ref 2), (0, .ref 0)]) (st' := [.ref 12]) (G' := (zh_14 xs)) rfl ?_
  refine zm_J_V (a := 12) (av := []) (rest := []) (Q1 := fun z G => z = .inl (some (.int 0)) ∧ G = (zh_17 xs)) (zm_T.1 0 312 _ rfl).1 zc_0_312 rfl (Nat.le_of_ble_eq_true rfl) (Nat.le_of_ble_eq_true rfl) (Nat.le_of_ble_eq_true rfl) (Nat.le_of_ble_eq_true rfl) (zo4_135 N _ (by omega)) ?_ ?_
  rotate_left
  · intro x G' h; exact nomatch h.1
  intro v G' h
  obtain ⟨h1, rfl⟩ := h
  cases Sum.inl.inj h1
  show zm_J N _ 0 315 [(5, .int 1), (4, .int 0), (3, .ref 36), (2, .ref 12), (1, .ref 2), (0, .ref 0)] [.int 0] (zh_17 xs) _
  refine zm_J_run zm_T 2 (pc' := 318) (lv' := [(6, .int 0), (5, .int 1), (4, .int 0), (3, .ref 36), (2, .ref 12), (1, .ref 2), (0, .ref 0)]) (st' := [.ref 12]) (G' := (zh_17 xs)) rfl ?_
  refine zm_J_V (a := 12) (av := []) (rest := []) (Q1 := fun z G => z = .inl (some (.int (2 - 1))) ∧ G = (zh_17 xs)) (zm_T.1 0 318 _ rfl).1 zc_0_318 rfl (Nat.le_of_ble_eq_true rfl) (Nat.le_of_ble_eq_true rfl) (Nat.le_of_ble_eq_true rfl) (Nat.le_of_ble_eq_true rfl) (zo4_136 N _ (by omega)) ?_ ?_
  rotate_left
  · intro x G' h; exact nomatch h.1
  intro v G' h
  obtain ⟨h1, rfl⟩ := h
  cases Sum.inl.inj h1
  show zm_J N _ 0 321 [(6, .int 0), (5, .int 1), (4, .int 0), (3, .ref 36), (2, .ref 12), (1, .ref 2), (0, .ref 0)] [.int (2 - 1)] (zh_17 xs) _
  refine zm_J_run zm_T 8 (pc' := 25) (lv' := [(4, .int 3), (6, .int 0), (5, .int 1), (3, .ref 36), (2, .ref 12), (1, .ref 2), (0, .ref 0)]) (st' := [.int 3]) (G' := (zh_17 xs)) rfl ?_
  refine zm_J_run zm_T 4 (pc' := 29) (lv' := [(4, .int 3), (6, .int 0), (5, .int 1), (3, .ref 36), (2, .ref 12), (1, .ref 2), (0, .ref 0)]) (st' := [.int (3 - 3), .int 3]) (G' := (zh_17 xs)) rfl ?_
  refine zm_J_run zm_T 1 (pc' := if ((3 - 3) : Int32) < 3 then 459 else 32) (lv' := [(4, .int 3), (6, .int 0), (5, .int 1), (3, .ref 36), (2, .ref 12), (1, .ref 2), (0, .ref 0)]) (st' := []) (G' := (zh_17 xs)) rfl ?_
  rw [if_pos (show ((3 - 3) : Int32) < 3 by decide +kernel)]
  refine zm_J_run zm_T 1 (pc' := 460) (lv' := [(4, .int 3), (6, .int 0), (5, .int 1), (3, .ref 36), (2, .ref 12), (1, .ref 2), (0, .ref 0)]) (st' := [.int 1]) (G' := (zh_17 xs)) rfl ?_
  exact zm_J_fin zm_T rfl rfl ⟨rfl, rfl⟩

set_option maxHeartbeats 40000000 in
set_option maxRecDepth 100000 in
/-- NeedMachine.tail -/
theorem zo5_137 {xs : Nat → Int32} (N : zm_N) (d : Nat) (hd : 8 ≤ d) : zm_J N d 67 0 [(0, .ref 2)] [] (zh_0 xs) (fun z G => z = .inr (2, 37) ∧ G = (zh_14 xs)) := by
  obtain ⟨d, rfl⟩ : ∃ e, d = e + 1 := ⟨d - 1, by omega⟩
  refine zm_J_run zm_T 1 (pc' := 1) (lv' := [(0, .ref 2)]) (st' := [.ref 2]) (G' := (zh_0 xs)) rfl ?_
  refine zm_J_V (a := 2) (av := []) (rest := []) (Q1 := fun z G => z = .inr (2, 37) ∧ G = (zh_14 xs)) (zm_T.1 67 1 _ rfl).1 zc_67_1 rfl (Nat.le_of_ble_eq_true rfl) (Nat.le_of_ble_eq_true rfl) (Nat.le_of_ble_eq_true rfl) (Nat.le_of_ble_eq_true rfl) (zo4_131 N _ (by omega)) ?_ ?_
  · intro v G' h; exact nomatch h.1
  intro x G' h
  obtain ⟨h1, rfl⟩ := h
  cases Sum.inr.inj h1
  exact Or.inl ⟨zm_out0 rfl, rfl, rfl⟩

set_option maxHeartbeats 40000000 in
set_option maxRecDepth 100000 in
/-- NeedMachineLaw.tail -/
theorem zo5_138 {xs : Nat → Int32} (N : zm_N) (d : Nat) (hd : 9 ≤ d) : zm_J N d 66 0 [(0, .ref 2), (1, .ref 36)] [] (zh_0 xs) (fun z G => z = .inl (some (.int 1)) ∧ G = (zh_14 xs)) := by
  obtain ⟨d, rfl⟩ : ∃ e, d = e + 1 := ⟨d - 1, by omega⟩
  refine zm_J_run zm_T 3 (pc' := 3) (lv' := [(0, .ref 2), (1, .ref 36)]) (st' := [.ref 2, .int 0, .ref 36]) (G' := (zh_0 xs)) rfl ?_
  refine zm_J_V (a := 2) (av := []) (rest := [.int 0, .ref 36]) (Q1 := fun z G => z = .inr (2, 37) ∧ G = (zh_14 xs)) (zm_T.1 66 3 _ rfl).1 zc_66_3 rfl (Nat.le_of_ble_eq_true rfl) (Nat.le_of_ble_eq_true rfl) (Nat.le_of_ble_eq_true rfl) (Nat.le_of_ble_eq_true rfl) (zo5_137 N _ (by omega)) ?_ ?_
  · intro v G' h; exact nomatch h.1
  intro x G' h
  obtain ⟨h1, rfl⟩ := h
  cases Sum.inr.inj h1
  refine Or.inr ⟨11, zt_66_2, ?_⟩
  show zm_J N _ 66 11 [(0, .ref 2), (1, .ref 36)] [.ref 37] (zh_14 xs) _
  refine zm_J_run zm_T 2 (pc' := 13) (lv' := [(2, .ref 37), (0, .ref 2), (1, .ref 36)]) (st' := [.int 1]) (G' := (zh_14 xs)) rfl ?_
  exact zm_J_fin zm_T rfl rfl ⟨rfl, rfl⟩

set_option maxHeartbeats 40000000 in
set_option maxRecDepth 100000 in
/-- NeedMachineModel.side -/
theorem zo5_139 {xs : Nat → Int32} (N : zm_N) (d : Nat) (hd : 1 ≤ d) : zm_J N d 104 0 [(0, .ref 12), (1, .int 0)] [] (zh_14 xs) (fun z G => z = .inl (some (.int 0)) ∧ G = (zh_17 xs)) := by
  obtain ⟨d, rfl⟩ : ∃ e, d = e + 1 := ⟨d - 1, by omega⟩
  refine zm_J_run zm_T 8 (pc' := 37) (lv' := [(0, .ref 12), (1, .int 0)]) (st' := [.ref 12]) (G' := (zh_16 xs)) rfl ?_
  refine zm_J_run zm_T 8 (pc' := 219) (lv' := [(0, .ref 12), (1, .int 0)]) (st' := [.int 2, .ref 12]) (G' := (zh_16 xs)) rfl ?_
  refine zm_J_run zm_T 7 (pc' := 230) (lv' := [(0, .ref 12), (1, .int 0)]) (st' := [.int 0]) (G' := (zh_17 xs)) rfl ?_
  exact zm_J_fin zm_T rfl rfl ⟨rfl, rfl⟩

set_option maxHeartbeats 40000000 in
set_option maxRecDepth 100000 in
/-- NeedMachineModel.tail -/
theorem zo5_140 {xs : Nat → Int32} (N : zm_N) (d : Nat) (hd : 2 ≤ d) : zm_J N d 105 0 [(0, .ref 12)] [] (zh_14 xs) (fun z G => z = .inl (some (.int 0)) ∧ G = (zh_17 xs)) := by
  obtain ⟨d, rfl⟩ : ∃ e, d = e + 1 := ⟨d - 1, by omega⟩
  refine zm_J_run zm_T 2 (pc' := 2) (lv' := [(0, .ref 12)]) (st' := [.int 0, .ref 12]) (G' := (zh_14 xs)) rfl ?_
  refine zm_J_V (a := 12) (av := [.int 0]) (rest := []) (Q1 := fun z G => z = .inl (some (.int 0)) ∧ G = (zh_17 xs)) (zm_T.1 105 2 _ rfl).1 zc_105_2 rfl (Nat.le_of_ble_eq_true rfl) (Nat.le_of_ble_eq_true rfl) (Nat.le_of_ble_eq_true rfl) (Nat.le_of_ble_eq_true rfl) (zo5_139 N _ (by omega)) ?_ ?_
  rotate_left
  · intro x G' h; exact nomatch h.1
  intro v G' h
  obtain ⟨h1, rfl⟩ := h
  cases Sum.inl.inj h1
  show zm_J N _ 105 5 [(0, .ref 12)] [.int 0] (zh_17 xs) _
  refine zm_J_run zm_T 2 (pc' := 16) (lv' := [(0, .ref 12)]) (st' := [.int 0]) (G' := (zh_17 xs)) rfl ?_
  exact zm_J_fin zm_T rfl rfl ⟨rfl, rfl⟩

set_option maxHeartbeats 40000000 in
set_option maxRecDepth 100000 in
theorem zl_op5 {xs : Nat → Int32} (N : zm_N) (d : Nat) (hd : 10 ≤ d) : zm_J N d 0 39 [(4, .int 0), (3, .ref 36), (2, .ref 12), (1, .ref 2), (0, .ref 0)] [.int 5] (zh_0 xs) (fun z G => z = .inl (some (.int 1)) ∧ G = (zh_17 xs)) := by
  obtain ⟨d, rfl⟩ : ∃ e, d = e + 1 := ⟨d - 1, by omega⟩
  refine zm_J_run zm_T 3 (pc' := 350) (lv' := [(4, .int 0), (3, .ref 36), (2, .ref 12), (1, .ref 2), (0, .ref 0)]) (st' := [.ref 36, .ref 2]) (G' := (zh_0 xs)) rfl ?_
  refine zm_J_S (av := [.ref 2, .ref 36]) (rest := []) (Q1 := fun z G => z = .inl (some (.int 1)) ∧ G = (zh_14 xs)) (zm_T.1 0 350 _ rfl).1 zc_0_350 (Nat.le_of_ble_eq_true rfl) (Nat.le_of_ble_eq_true rfl) (Nat.le_of_ble_eq_true rfl) (Nat.le_of_ble_eq_true rfl) (zo5_138 N _ (by omega)) ?_ ?_
  rotate_left
  · intro x G' h; exact nomatch h.1
  intro v G' h
  obtain ⟨h1, rfl⟩ := h
  cases Sum.inl.inj h1
  show zm_J N _ 0 353 [(4, .int 0), (3, .ref 36), (2, .ref 12), (1, .ref 2), (0, .ref 0)] [.int 1] (zh_14 xs) _
  refine zm_J_run zm_T 2 (pc' := 356) (lv' := [(5, .int 1), (4, .int 0), (3, .ref 36), (2, .ref 12), (1, .ref 2), (0, .ref 0)]) (st' := [.ref 12]) (G' := (zh_14 xs)) rfl ?_
  refine zm_J_V (a := 12) (av := []) (rest := []) (Q1 := fun z G => z = .inl (some (.int 0)) ∧ G = (zh_17 xs)) (zm_T.1 0 356 _ rfl).1 zc_0_356 rfl (Nat.le_of_ble_eq_true rfl) (Nat.le_of_ble_eq_true rfl) (Nat.le_of_ble_eq_true rfl) (Nat.le_of_ble_eq_true rfl) (zo5_140 N _ (by omega)) ?_ ?_
  rotate_left
  · intro x G' h; exact nomatch h.1
  intro v G' h
  obtain ⟨h1, rfl⟩ := h
  cases Sum.inl.inj h1
  show zm_J N _ 0 359 [(5, .int 1), (4, .int 0), (3, .ref 36), (2, .ref 12), (1, .ref 2), (0, .ref 0)] [.int 0] (zh_17 xs) _
  refine zm_J_run zm_T 2 (pc' := 362) (lv' := [(6, .int 0), (5, .int 1), (4, .int 0), (3, .ref 36), (2, .ref 12), (1, .ref 2), (0, .ref 0)]) (st' := [.ref 12]) (G' := (zh_17 xs)) rfl ?_
  refine zm_J_V (a := 12) (av := []) (rest := []) (Q1 := fun z G => z = .inl (some (.int (2 - 1))) ∧ G = (zh_17 xs)) (zm_T.1 0 362 _ rfl).1 zc_0_362 rfl (Nat.le_of_ble_eq_true rfl) (Nat.le_of_ble_eq_true rfl) (Nat.le_of_ble_eq_true rfl) (Nat.le_of_ble_eq_true rfl) (zo4_136 N _ (by omega)) ?_ ?_
  rotate_left
  · intro x G' h; exact nomatch h.1
  intro v G' h
  obtain ⟨h1, rfl⟩ := h
  cases Sum.inl.inj h1
  show zm_J N _ 0 365 [(6, .int 0), (5, .int 1), (4, .int 0), (3, .ref 36), (2, .ref 12), (1, .ref 2), (0, .ref 0)] [.int (2 - 1)] (zh_17 xs) _
  refine zm_J_run zm_T 8 (pc' := 25) (lv' := [(4, .int 3), (6, .int 0), (5, .int 1), (3, .ref 36), (2, .ref 12), (1, .ref 2), (0, .ref 0)]) (st' := [.int 3]) (G' := (zh_17 xs)) rfl ?_
  refine zm_J_run zm_T 4 (pc' := 29) (lv' := [(4, .int 3), (6, .int 0), (5, .int 1), (3, .ref 36), (2, .ref 12), (1, .ref 2), (0, .ref 0)]) (st' := [.int (3 - 3), .int 3]) (G' := (zh_17 xs)) rfl ?_
  refine zm_J_run zm_T 1 (pc' := if ((3 - 3) : Int32) < 3 then 459 else 32) (lv' := [(4, .int 3), (6, .int 0), (5, .int 1), (3, .ref 36), (2, .ref 12), (1, .ref 2), (0, .ref 0)]) (st' := []) (G' := (zh_17 xs)) rfl ?_
  rw [if_pos (show ((3 - 3) : Int32) < 3 by decide +kernel)]
  refine zm_J_run zm_T 1 (pc' := 460) (lv' := [(4, .int 3), (6, .int 0), (5, .int 1), (3, .ref 36), (2, .ref 12), (1, .ref 2), (0, .ref 0)]) (st' := [.int 1]) (G' := (zh_17 xs)) rfl ?_
  exact zm_J_fin zm_T rfl rfl ⟨rfl, rfl⟩
end
section
/-! REMOVE ON FRESH OBJECTS, A NAME IN RANGE, laid by wip/gen/p1law.py -/
def zg_0 (xs : Nat → Int32) : zm_H := ([.inl (0, 3, .inl xs), .inr (99, []), .inr (0, [.ref 3, .ref 6, .ref 11, .null, .int 0, .int 0, .int 0, .int 0, .int 0]), .inr (1, [.int 0, .int (-1), .ref 4, .ref 5, .int 0, .int 0, .int 0, .int 0]), .inl (1, 40, .inl fun _ => 0), .inl (1, 4, .inl fun _ => 0), .inr (2, [.ref 7, .ref 8, .ref 9, .ref 10, .int 0, .int 0, .int 0]), .inr (3, [.int 1, .int 0, .null, .null, .null]), .inr (4, [.ref 1, .int 0, .int 0]), .inr (4, [.ref 1, .int 0, .int 0]), .inr (4, [.ref 1, .int 0, .int 0]), .inl (4, 6, .inr (.inr (.inr (.inr fun _ => none)))), .inr (5, [.ref 13, .ref 14, .ref 15, .ref 16, .ref 17, .ref 18, .ref 19, .ref 20, .int 0, .int (-1), .int 0, .int 0, .int 0, .ref 21, .ref 22, .ref 23, .ref 24, .ref 25, .ref 26, .ref 27, .ref 28, .ref 29, .ref 30, .int 0, .int 0, .int 0, .ref 31, .ref 32, .ref 33, .ref 34, .ref 35, .int 0, .int 0, .int 0, .int 0, .int 0, .int 0, .int 0, .int 0, .int 0, .int 0, .int 0, .int 0, .int 0]), .inl (0, 40, .inl fun _ => 0), .inl (0, 21200, .inl fun _ => 0), .inl (0, 240, .inl fun _ => 0), .inl (0, 6, .inl fun _ => 0), .inl (0, 24, .inl fun _ => 0), .inl (0, 6, .inl fun _ => 0), .inl (0, 16, .inl fun _ => 0), .inl (3, 6, .inl fun _ => 0), .inl (0, 16400, .inl fun _ => 0), .inl (0, 16400, .inl fun _ => 0), .inl (0, 16400, .inl fun _ => 0), .inl (0, 16400, .inl fun _ => 0), .inl (0, 16400, .inl fun _ => 0), .inl (0, 16400, .inl fun _ => 0), .inl (0, 1700, .inl fun _ => 0), .inl (0, 1700, .inl fun _ => 0), .inl (0, 16400, .inl fun _ => 0), .inl (0, 16400, .inl fun _ => 0), .inl (0, 64, .inl fun _ => 0), .inl (0, 64, .inl fun _ => 0), .inl (0, 64, .inl fun _ => 0), .inl (0, 64, .inl fun _ => 0), .inl (0, 64, .inl fun _ => 0), .inl (2, 1, .inr (.inl fun _ => 0))], 156591)
def zg_1 (xs : Nat → Int32) : zm_H := ([.inl (0, 3, .inl xs), .inr (99, []), .inr (0, [.ref 3, .ref 6, .ref 11, .null, .int 0, .int 0, .int 0, .int 0, .int 0]), .inr (1, [.int 0, .int (-1), .ref 4, .ref 5, .int 0, .int 0, .int 0, .int 0]), .inl (1, 40, .inl fun _ => 0), .inl (1, 4, .inl fun _ => 0), .inr (2, [.ref 7, .ref 8, .ref 9, .ref 10, .int 0, .int 0, .int 0]), .inr (3, [.int 1, .int 0, .null, .null, .null]), .inr (4, [.ref 1, .int 0, .int 0]), .inr (4, [.ref 1, .int 0, .int 0]), .inr (4, [.ref 1, .int 0, .int 0]), .inl (4, 6, .inr (.inr (.inr (.inr fun _ => none)))), .inr (5, [.ref 13, .ref 14, .ref 15, .ref 16, .ref 17, .ref 18, .ref 19, .ref 20, .int 0, .int (-1), .int 0, .int 0, .int 0, .ref 21, .ref 22, .ref 23, .ref 24, .ref 25, .ref 26, .ref 27, .ref 28, .ref 29, .ref 30, .int 0, .int 0, .int 0, .ref 31, .ref 32, .ref 33, .ref 34, .ref 35, .int 0, .int 0, .int 0, .int 0, .int 0, .int 0, .int 0, .int 0, .int 0, .int 0, .int 0, .int 0, .int 0]), .inl (0, 40, .inl fun _ => 0), .inl (0, 21200, .inl fun _ => 0), .inl (0, 240, .inl fun _ => 0), .inl (0, 6, .inl fun _ => 0), .inl (0, 24, .inl fun _ => 0), .inl (0, 6, .inl fun _ => 0), .inl (0, 16, .inl fun _ => 0), .inl (3, 6, .inl fun _ => 0), .inl (0, 16400, .inl fun _ => 0), .inl (0, 16400, .inl fun _ => 0), .inl (0, 16400, .inl fun _ => 0), .inl (0, 16400, .inl fun _ => 0), .inl (0, 16400, .inl fun _ => 0), .inl (0, 16400, .inl fun _ => 0), .inl (0, 1700, .inl fun _ => 0), .inl (0, 1700, .inl fun _ => 0), .inl (0, 16400, .inl fun _ => 0), .inl (0, 16400, .inl fun _ => 0), .inl (0, 64, .inl fun _ => 0), .inl (0, 64, .inl fun _ => 0), .inl (0, 64, .inl fun _ => 0), .inl (0, 64, .inl fun _ => 0), .inl (0, 64, .inl fun _ => 0), .inl (2, 1, .inr (.inl fun _ => 0)), .inr (10, [])], 156597)
def zg_2 (xs : Nat → Int32) : zm_H := ([.inl (0, 3, .inl xs), .inr (99, []), .inr (0, [.ref 3, .ref 6, .ref 11, .null, .int 0, .int 0, .int 0, .int 0, .int 0]), .inr (1, [.int 0, .int (-1), .ref 4, .ref 5, .int 0, .int 0, .int 0, .int 0]), .inl (1, 40, .inl fun _ => 0), .inl (1, 4, .inl fun _ => 0), .inr (2, [.ref 7, .ref 8, .ref 9, .ref 10, .int 0, .int 0, .int 0]), .inr (3, [.int 1, .int 0, .null, .null, .null]), .inr (4, [.ref 1, .int 0, .int 0]), .inr (4, [.ref 1, .int 0, .int 0]), .inr (4, [.ref 1, .int 0, .int 0]), .inl (4, 6, .inr (.inr (.inr (.inr fun _ => none)))), .inr (5, [.ref 13, .ref 14, .ref 15, .ref 16, .ref 17, .ref 18, .ref 19, .ref 20, .int 0, .int (-1), .int 0, .int 0, .int 2, .ref 21, .ref 22, .ref 23, .ref 24, .ref 25, .ref 26, .ref 27, .ref 28, .ref 29, .ref 30, .int 0, .int 0, .int 0, .ref 31, .ref 32, .ref 33, .ref 34, .ref 35, .int 0, .int 0, .int 0, .int 0, .int 0, .int 0, .int 0, .int 0, .int 0, .int 0, .int 0, .int 0, .int 0]), .inl (0, 40, .inl fun _ => 0), .inl (0, 21200, .inl fun _ => 0), .inl (0, 240, .inl fun _ => 0), .inl (0, 6, .inl fun _ => 0), .inl (0, 24, .inl fun _ => 0), .inl (0, 6, .inl fun _ => 0), .inl (0, 16, .inl fun _ => 0), .inl (3, 6, .inl (upd (fun _ => 0) 0 0)), .inl (0, 16400, .inl fun _ => 0), .inl (0, 16400, .inl fun _ => 0), .inl (0, 16400, .inl fun _ => 0), .inl (0, 16400, .inl fun _ => 0), .inl (0, 16400, .inl fun _ => 0), .inl (0, 16400, .inl fun _ => 0), .inl (0, 1700, .inl fun _ => 0), .inl (0, 1700, .inl fun _ => 0), .inl (0, 16400, .inl fun _ => 0), .inl (0, 16400, .inl fun _ => 0), .inl (0, 64, .inl fun _ => 0), .inl (0, 64, .inl fun _ => 0), .inl (0, 64, .inl fun _ => 0), .inl (0, 64, .inl fun _ => 0), .inl (0, 64, .inl fun _ => 0), .inl (2, 1, .inr (.inl fun _ => 0)), .inr (10, [])], 156597)
set_option maxRecDepth 100000 in
theorem zl_r0 {xs : Nat → Int32} (h : xs 1 = 0) (N : zm_N) (d : Nat) (hd : 10 ≤ d) : zm_J N d 0 39 [(4, .int 0), (3, .ref 36), (2, .ref 12), (1, .ref 2), (0, .ref 0)] [.int 6] (zg_0 xs) (fun z G => z = .inl (some (.int 1)) ∧ G = (zg_2 xs)) := by
  sorry
def zg_3 (xs : Nat → Int32) : zm_H := ([.inl (0, 3, .inl xs), .inr (99, []), .inr (0, [.ref 3, .ref 6, .ref 11, .null, .int 0, .int 0, .int 0, .int 0, .int 0]), .inr (1, [.int 0, .int (-1), .ref 4, .ref 5, .int 0, .int 0, .int 0, .int 0]), .inl (1, 40, .inl fun _ => 0), .inl (1, 4, .inl fun _ => 0), .inr (2, [.ref 7, .ref 8, .ref 9, .ref 10, .int 0, .int 0, .int 0]), .inr (3, [.int 1, .int 0, .null, .null, .null]), .inr (4, [.ref 1, .int 0, .int 0]), .inr (4, [.ref 1, .int 0, .int 0]), .inr (4, [.ref 1, .int 0, .int 0]), .inl (4, 6, .inr (.inr (.inr (.inr fun _ => none)))), .inr (5, [.ref 13, .ref 14, .ref 15, .ref 16, .ref 17, .ref 18, .ref 19, .ref 20, .int 0, .int (-1), .int 0, .int 0, .int 2, .ref 21, .ref 22, .ref 23, .ref 24, .ref 25, .ref 26, .ref 27, .ref 28, .ref 29, .ref 30, .int 0, .int 0, .int 0, .ref 31, .ref 32, .ref 33, .ref 34, .ref 35, .int 0, .int 0, .int 0, .int 0, .int 0, .int 0, .int 0, .int 0, .int 0, .int 0, .int 0, .int 0, .int 0]), .inl (0, 40, .inl fun _ => 0), .inl (0, 21200, .inl fun _ => 0), .inl (0, 240, .inl fun _ => 0), .inl (0, 6, .inl fun _ => 0), .inl (0, 24, .inl fun _ => 0), .inl (0, 6, .inl fun _ => 0), .inl (0, 16, .inl fun _ => 0), .inl (3, 6, .inl (upd (fun _ => 0) 1 0)), .inl (0, 16400, .inl fun _ => 0), .inl (0, 16400, .inl fun _ => 0), .inl (0, 16400, .inl fun _ => 0), .inl (0, 16400, .inl fun _ => 0), .inl (0, 16400, .inl fun _ => 0), .inl (0, 16400, .inl fun _ => 0), .inl (0, 1700, .inl fun _ => 0), .inl (0, 1700, .inl fun _ => 0), .inl (0, 16400, .inl fun _ => 0), .inl (0, 16400, .inl fun _ => 0), .inl (0, 64, .inl fun _ => 0), .inl (0, 64, .inl fun _ => 0), .inl (0, 64, .inl fun _ => 0), .inl (0, 64, .inl fun _ => 0), .inl (0, 64, .inl fun _ => 0), .inl (2, 1, .inr (.inl fun _ => 0)), .inr (10, [])], 156597)
set_option maxRecDepth 100000 in
theorem zl_r1 {xs : Nat → Int32} (h : xs 1 = 1) (N : zm_N) (d : Nat) (hd : 10 ≤ d) : zm_J N d 0 39 [(4, .int 0), (3, .ref 36), (2, .ref 12), (1, .ref 2), (0, .ref 0)] [.int 6] (zg_0 xs) (fun z G => z = .inl (some (.int 1)) ∧ G = (zg_3 xs)) := by
  sorry
def zg_4 (xs : Nat → Int32) : zm_H := ([.inl (0, 3, .inl xs), .inr (99, []), .inr (0, [.ref 3, .ref 6, .ref 11, .null, .int 0, .int 0, .int 0, .int 0, .int 0]), .inr (1, [.int 0, .int (-1), .ref 4, .ref 5, .int 0, .int 0, .int 0, .int 0]), .inl (1, 40, .inl fun _ => 0), .inl (1, 4, .inl fun _ => 0), .inr (2, [.ref 7, .ref 8, .ref 9, .ref 10, .int 0, .int 0, .int 0]), .inr (3, [.int 1, .int 0, .null, .null, .null]), .inr (4, [.ref 1, .int 0, .int 0]), .inr (4, [.ref 1, .int 0, .int 0]), .inr (4, [.ref 1, .int 0, .int 0]), .inl (4, 6, .inr (.inr (.inr (.inr fun _ => none)))), .inr (5, [.ref 13, .ref 14, .ref 15, .ref 16, .ref 17, .ref 18, .ref 19, .ref 20, .int 0, .int (-1), .int 0, .int 0, .int 2, .ref 21, .ref 22, .ref 23, .ref 24, .ref 25, .ref 26, .ref 27, .ref 28, .ref 29, .ref 30, .int 0, .int 0, .int 0, .ref 31, .ref 32, .ref 33, .ref 34, .ref 35, .int 0, .int 0, .int 0, .int 0, .int 0, .int 0, .int 0, .int 0, .int 0, .int 0, .int 0, .int 0, .int 0]), .inl (0, 40, .inl fun _ => 0), .inl (0, 21200, .inl fun _ => 0), .inl (0, 240, .inl fun _ => 0), .inl (0, 6, .inl fun _ => 0), .inl (0, 24, .inl fun _ => 0), .inl (0, 6, .inl fun _ => 0), .inl (0, 16, .inl fun _ => 0), .inl (3, 6, .inl (upd (fun _ => 0) 2 0)), .inl (0, 16400, .inl fun _ => 0), .inl (0, 16400, .inl fun _ => 0), .inl (0, 16400, .inl fun _ => 0), .inl (0, 16400, .inl fun _ => 0), .inl (0, 16400, .inl fun _ => 0), .inl (0, 16400, .inl fun _ => 0), .inl (0, 1700, .inl fun _ => 0), .inl (0, 1700, .inl fun _ => 0), .inl (0, 16400, .inl fun _ => 0), .inl (0, 16400, .inl fun _ => 0), .inl (0, 64, .inl fun _ => 0), .inl (0, 64, .inl fun _ => 0), .inl (0, 64, .inl fun _ => 0), .inl (0, 64, .inl fun _ => 0), .inl (0, 64, .inl fun _ => 0), .inl (2, 1, .inr (.inl fun _ => 0)), .inr (10, [])], 156597)
set_option maxRecDepth 100000 in
theorem zl_r2 {xs : Nat → Int32} (h : xs 1 = 2) (N : zm_N) (d : Nat) (hd : 10 ≤ d) : zm_J N d 0 39 [(4, .int 0), (3, .ref 36), (2, .ref 12), (1, .ref 2), (0, .ref 0)] [.int 6] (zg_0 xs) (fun z G => z = .inl (some (.int 1)) ∧ G = (zg_4 xs)) := by
  sorry
def zg_5 (xs : Nat → Int32) : zm_H := ([.inl (0, 3, .inl xs), .inr (99, []), .inr (0, [.ref 3, .ref 6, .ref 11, .null, .int 0, .int 0, .int 0, .int 0, .int 0]), .inr (1, [.int 0, .int (-1), .ref 4, .ref 5, .int 0, .int 0, .int 0, .int 0]), .inl (1, 40, .inl fun _ => 0), .inl (1, 4, .inl fun _ => 0), .inr (2, [.ref 7, .ref 8, .ref 9, .ref 10, .int 0, .int 0, .int 0]), .inr (3, [.int 1, .int 0, .null, .null, .null]), .inr (4, [.ref 1, .int 0, .int 0]), .inr (4, [.ref 1, .int 0, .int 0]), .inr (4, [.ref 1, .int 0, .int 0]), .inl (4, 6, .inr (.inr (.inr (.inr fun _ => none)))), .inr (5, [.ref 13, .ref 14, .ref 15, .ref 16, .ref 17, .ref 18, .ref 19, .ref 20, .int 0, .int (-1), .int 0, .int 0, .int 2, .ref 21, .ref 22, .ref 23, .ref 24, .ref 25, .ref 26, .ref 27, .ref 28, .ref 29, .ref 30, .int 0, .int 0, .int 0, .ref 31, .ref 32, .ref 33, .ref 34, .ref 35, .int 0, .int 0, .int 0, .int 0, .int 0, .int 0, .int 0, .int 0, .int 0, .int 0, .int 0, .int 0, .int 0]), .inl (0, 40, .inl fun _ => 0), .inl (0, 21200, .inl fun _ => 0), .inl (0, 240, .inl fun _ => 0), .inl (0, 6, .inl fun _ => 0), .inl (0, 24, .inl fun _ => 0), .inl (0, 6, .inl fun _ => 0), .inl (0, 16, .inl fun _ => 0), .inl (3, 6, .inl (upd (fun _ => 0) 3 0)), .inl (0, 16400, .inl fun _ => 0), .inl (0, 16400, .inl fun _ => 0), .inl (0, 16400, .inl fun _ => 0), .inl (0, 16400, .inl fun _ => 0), .inl (0, 16400, .inl fun _ => 0), .inl (0, 16400, .inl fun _ => 0), .inl (0, 1700, .inl fun _ => 0), .inl (0, 1700, .inl fun _ => 0), .inl (0, 16400, .inl fun _ => 0), .inl (0, 16400, .inl fun _ => 0), .inl (0, 64, .inl fun _ => 0), .inl (0, 64, .inl fun _ => 0), .inl (0, 64, .inl fun _ => 0), .inl (0, 64, .inl fun _ => 0), .inl (0, 64, .inl fun _ => 0), .inl (2, 1, .inr (.inl fun _ => 0)), .inr (10, [])], 156597)
set_option maxRecDepth 100000 in
theorem zl_r3 {xs : Nat → Int32} (h : xs 1 = 3) (N : zm_N) (d : Nat) (hd : 10 ≤ d) : zm_J N d 0 39 [(4, .int 0), (3, .ref 36), (2, .ref 12), (1, .ref 2), (0, .ref 0)] [.int 6] (zg_0 xs) (fun z G => z = .inl (some (.int 1)) ∧ G = (zg_5 xs)) := by
  sorry
def zg_6 (xs : Nat → Int32) : zm_H := ([.inl (0, 3, .inl xs), .inr (99, []), .inr (0, [.ref 3, .ref 6, .ref 11, .null, .int 0, .int 0, .int 0, .int 0, .int 0]), .inr (1, [.int 0, .int (-1), .ref 4, .ref 5, .int 0, .int 0, .int 0, .int 0]), .inl (1, 40, .inl fun _ => 0), .inl (1, 4, .inl fun _ => 0), .inr (2, [.ref 7, .ref 8, .ref 9, .ref 10, .int 0, .int 0, .int 0]), .inr (3, [.int 1, .int 0, .null, .null, .null]), .inr (4, [.ref 1, .int 0, .int 0]), .inr (4, [.ref 1, .int 0, .int 0]), .inr (4, [.ref 1, .int 0, .int 0]), .inl (4, 6, .inr (.inr (.inr (.inr fun _ => none)))), .inr (5, [.ref 13, .ref 14, .ref 15, .ref 16, .ref 17, .ref 18, .ref 19, .ref 20, .int 0, .int (-1), .int 0, .int 0, .int 2, .ref 21, .ref 22, .ref 23, .ref 24, .ref 25, .ref 26, .ref 27, .ref 28, .ref 29, .ref 30, .int 0, .int 0, .int 0, .ref 31, .ref 32, .ref 33, .ref 34, .ref 35, .int 0, .int 0, .int 0, .int 0, .int 0, .int 0, .int 0, .int 0, .int 0, .int 0, .int 0, .int 0, .int 0]), .inl (0, 40, .inl fun _ => 0), .inl (0, 21200, .inl fun _ => 0), .inl (0, 240, .inl fun _ => 0), .inl (0, 6, .inl fun _ => 0), .inl (0, 24, .inl fun _ => 0), .inl (0, 6, .inl fun _ => 0), .inl (0, 16, .inl fun _ => 0), .inl (3, 6, .inl (upd (fun _ => 0) 4 0)), .inl (0, 16400, .inl fun _ => 0), .inl (0, 16400, .inl fun _ => 0), .inl (0, 16400, .inl fun _ => 0), .inl (0, 16400, .inl fun _ => 0), .inl (0, 16400, .inl fun _ => 0), .inl (0, 16400, .inl fun _ => 0), .inl (0, 1700, .inl fun _ => 0), .inl (0, 1700, .inl fun _ => 0), .inl (0, 16400, .inl fun _ => 0), .inl (0, 16400, .inl fun _ => 0), .inl (0, 64, .inl fun _ => 0), .inl (0, 64, .inl fun _ => 0), .inl (0, 64, .inl fun _ => 0), .inl (0, 64, .inl fun _ => 0), .inl (0, 64, .inl fun _ => 0), .inl (2, 1, .inr (.inl fun _ => 0)), .inr (10, [])], 156597)
set_option maxRecDepth 100000 in
theorem zl_r4 {xs : Nat → Int32} (h : xs 1 = 4) (N : zm_N) (d : Nat) (hd : 10 ≤ d) : zm_J N d 0 39 [(4, .int 0), (3, .ref 36), (2, .ref 12), (1, .ref 2), (0, .ref 0)] [.int 6] (zg_0 xs) (fun z G => z = .inl (some (.int 1)) ∧ G = (zg_6 xs)) := by
  sorry
def zg_7 (xs : Nat → Int32) : zm_H := ([.inl (0, 3, .inl xs), .inr (99, []), .inr (0, [.ref 3, .ref 6, .ref 11, .null, .int 0, .int 0, .int 0, .int 0, .int 0]), .inr (1, [.int 0, .int (-1), .ref 4, .ref 5, .int 0, .int 0, .int 0, .int 0]), .inl (1, 40, .inl fun _ => 0), .inl (1, 4, .inl fun _ => 0), .inr (2, [.ref 7, .ref 8, .ref 9, .ref 10, .int 0, .int 0, .int 0]), .inr (3, [.int 1, .int 0, .null, .null, .null]), .inr (4, [.ref 1, .int 0, .int 0]), .inr (4, [.ref 1, .int 0, .int 0]), .inr (4, [.ref 1, .int 0, .int 0]), .inl (4, 6, .inr (.inr (.inr (.inr fun _ => none)))), .inr (5, [.ref 13, .ref 14, .ref 15, .ref 16, .ref 17, .ref 18, .ref 19, .ref 20, .int 0, .int (-1), .int 0, .int 0, .int 2, .ref 21, .ref 22, .ref 23, .ref 24, .ref 25, .ref 26, .ref 27, .ref 28, .ref 29, .ref 30, .int 0, .int 0, .int 0, .ref 31, .ref 32, .ref 33, .ref 34, .ref 35, .int 0, .int 0, .int 0, .int 0, .int 0, .int 0, .int 0, .int 0, .int 0, .int 0, .int 0, .int 0, .int 0]), .inl (0, 40, .inl fun _ => 0), .inl (0, 21200, .inl fun _ => 0), .inl (0, 240, .inl fun _ => 0), .inl (0, 6, .inl fun _ => 0), .inl (0, 24, .inl fun _ => 0), .inl (0, 6, .inl fun _ => 0), .inl (0, 16, .inl fun _ => 0), .inl (3, 6, .inl (upd (fun _ => 0) 5 0)), .inl (0, 16400, .inl fun _ => 0), .inl (0, 16400, .inl fun _ => 0), .inl (0, 16400, .inl fun _ => 0), .inl (0, 16400, .inl fun _ => 0), .inl (0, 16400, .inl fun _ => 0), .inl (0, 16400, .inl fun _ => 0), .inl (0, 1700, .inl fun _ => 0), .inl (0, 1700, .inl fun _ => 0), .inl (0, 16400, .inl fun _ => 0), .inl (0, 16400, .inl fun _ => 0), .inl (0, 64, .inl fun _ => 0), .inl (0, 64, .inl fun _ => 0), .inl (0, 64, .inl fun _ => 0), .inl (0, 64, .inl fun _ => 0), .inl (0, 64, .inl fun _ => 0), .inl (2, 1, .inr (.inl fun _ => 0)), .inr (10, [])], 156597)
set_option maxRecDepth 100000 in
theorem zl_r5 {xs : Nat → Int32} (h : xs 1 = 5) (N : zm_N) (d : Nat) (hd : 10 ≤ d) : zm_J N d 0 39 [(4, .int 0), (3, .ref 36), (2, .ref 12), (1, .ref 2), (0, .ref 0)] [.int 6] (zg_0 xs) (fun z G => z = .inl (some (.int 1)) ∧ G = (zg_7 xs)) := by
  sorry
end
section
/-! REMOVE AND COUNT WITH OTHER NUMBERS; THE LAW WHOLE -/
theorem zm_J_sw {N : zm_N} {d mi pc t qa qb : Nat} {qn : Int} {dflt lo hi o : Int} {offs : Array Int} {x : Int32} {lv : zm_L} {r : List Value} {G : zm_H} {Q : zm_O → zm_H → Prop} (hq : zm_cd mi pc = some (.tableswitch dflt lo hi offs, qa, qb, qn)) (ho : zm_toff dflt lo hi offs x = some o) (ht : zm_tgt pc o = some t) (k : zm_J N d mi t lv r G Q) : zm_J N d mi pc lv (.int x :: r) G Q := by
  refine zm_stepq_ok zm_T (zm_T.1 mi pc _ hq) (s' := (t, lv, r, G)) ?_ k
  have e : zm_br zm_no (.tableswitch dflt lo hi offs) pc (.int x :: r) = some (t, r) := by
    show zm_sw (.int x :: r) pc (zm_toff dflt lo hi offs) = some (t, r)
    unfold zm_sw
    simp only [ho, ht]
  show (match zm_br zm_no (.tableswitch dflt lo hi offs) pc (.int x :: r) with
    | some y => some (y.1, lv, y.2, G)
    | none => none) = some (t, lv, r, G)
  rw [e]
theorem zl_lt {x : Int32} (h : x < 0) : x.toInt < 0 := by
  have := Int32.lt_iff_toInt_lt.mp h
  simpa using this
theorem zl_gt5 {x : Int32} (h : 5 < x) : ¬ x < 6 := by
  intro h2
  have h1 := Int32.lt_iff_toInt_lt.mp h
  have h3 := Int32.lt_iff_toInt_lt.mp h2
  have e5 : (5 : Int32).toInt = 5 := by decide +kernel
  have e6 : (6 : Int32).toInt = 6 := by decide +kernel
  omega
theorem zl_ge6 {x : Int32} (h : nI 6 ≤ x) : 5 < x := by
  have h1 := Int32.le_iff_toInt_le.mp h
  have e5 : (5 : Int32).toInt = 5 := by decide +kernel
  have e6 : (nI 6).toInt = 6 := by decide +kernel
  apply Int32.lt_iff_toInt_lt.mpr
  omega
theorem zl_ge8 {x : Int32} (h : nI 8 ≤ x) : 7 < x.toInt := by
  have h1 := Int32.le_iff_toInt_le.mp h
  have e8 : (nI 8).toInt = 8 := by decide +kernel
  omega
set_option maxHeartbeats 40000000 in
set_option maxRecDepth 100000 in
theorem zl_mc {xs : Nat → Int32} (v : Int32) (N : zm_N) (d : Nat) (hd : 1 ≤ d) {Q : zm_O → zm_H → Prop} (kk : zm_J N d 107 34 [(3, .int 6), (2, .int 0), (0, .ref 12), (1, .int v)] [.int v] (zg_0 xs) Q) : zm_J N d 107 0 [(0, .ref 12), (1, .int v)] [] (zg_0 xs) Q := by
  obtain ⟨d, rfl⟩ : ∃ e, d = e + 1 := ⟨d - 1, by omega⟩
  refine zm_J_run zm_T 8 (pc' := 10) (lv' := [(3, .int 0), (2, .int 0), (0, .ref 12), (1, .int v)]) (st' := [.int 0]) (G' := (zg_0 xs)) rfl ?_
  refine zm_J_run zm_T 1 (pc' := 12) (lv' := [(3, .int 0), (2, .int 0), (0, .ref 12), (1, .int v)]) (st' := [.int 6, .int 0]) (G' := (zg_0 xs)) rfl ?_
  refine zm_J_run zm_T 1 (pc' := if (6 : Int32) ≤ 0 then 33 else 15) (lv' := [(3, .int 0), (2, .int 0), (0, .ref 12), (1, .int v)]) (st' := []) (G' := (zg_0 xs)) rfl ?_
  rw [if_neg (show ¬ ((6 : Int32) ≤ 0) by decide +kernel)]
  refine zm_J_run zm_T 8 (pc' := 10) (lv' := [(3, .int 1), (2, .int 0), (0, .ref 12), (1, .int v)]) (st' := [.int 1]) (G' := (zg_0 xs)) rfl ?_
  refine zm_J_run zm_T 1 (pc' := 12) (lv' := [(3, .int 1), (2, .int 0), (0, .ref 12), (1, .int v)]) (st' := [.int 6, .int 1]) (G' := (zg_0 xs)) rfl ?_
  refine zm_J_run zm_T 1 (pc' := if (6 : Int32) ≤ 1 then 33 else 15) (lv' := [(3, .int 1), (2, .int 0), (0, .ref 12), (1, .int v)]) (st' := []) (G' := (zg_0 xs)) rfl ?_
  rw [if_neg (show ¬ ((6 : Int32) ≤ 1) by decide +kernel)]
  refine zm_J_run zm_T 8 (pc' := 10) (lv' := [(3, .int 2), (2, .int 0), (0, .ref 12), (1, .int v)]) (st' := [.int 2]) (G' := (zg_0 xs)) rfl ?_
  refine zm_J_run zm_T 1 (pc' := 12) (lv' := [(3, .int 2), (2, .int 0), (0, .ref 12), (1, .int v)]) (st' := [.int 6, .int 2]) (G' := (zg_0 xs)) rfl ?_
  refine zm_J_run zm_T 1 (pc' := if (6 : Int32) ≤ 2 then 33 else 15) (lv' := [(3, .int 2), (2, .int 0), (0, .ref 12), (1, .int v)]) (st' := []) (G' := (zg_0 xs)) rfl ?_
  rw [if_neg (show ¬ ((6 : Int32) ≤ 2) by decide +kernel)]
  refine zm_J_run zm_T 8 (pc' := 10) (lv' := [(3, .int 3), (2, .int 0), (0, .ref 12), (1, .int v)]) (st' := [.int 3]) (G' := (zg_0 xs)) rfl ?_
  refine zm_J_run zm_T 1 (pc' := 12) (lv' := [(3, .int 3), (2, .int 0), (0, .ref 12), (1, .int v)]) (st' := [.int 6, .int 3]) (G' := (zg_0 xs)) rfl ?_
  refine zm_J_run zm_T 1 (pc' := if (6 : Int32) ≤ 3 then 33 else 15) (lv' := [(3, .int 3), (2, .int 0), (0, .ref 12), (1, .int v)]) (st' := []) (G' := (zg_0 xs)) rfl ?_
  rw [if_neg (show ¬ ((6 : Int32) ≤ 3) by decide +kernel)]
  refine zm_J_run zm_T 8 (pc' := 10) (lv' := [(3, .int 4), (2, .int 0), (0, .ref 12), (1, .int v)]) (st' := [.int 4]) (G' := (zg_0 xs)) rfl ?_
  refine zm_J_run zm_T 1 (pc' := 12) (lv' := [(3, .int 4), (2, .int 0), (0, .ref 12), (1, .int v)]) (st' := [.int 6, .int 4]) (G' := (zg_0 xs)) rfl ?_
  refine zm_J_run zm_T 1 (pc' := if (6 : Int32) ≤ 4 then 33 else 15) (lv' := [(3, .int 4), (2, .int 0), (0, .ref 12), (1, .int v)]) (st' := []) (G' := (zg_0 xs)) rfl ?_
  rw [if_neg (show ¬ ((6 : Int32) ≤ 4) by decide +kernel)]
  refine zm_J_run zm_T 8 (pc' := 10) (lv' := [(3, .int 5), (2, .int 0), (0, .ref 12), (1, .int v)]) (st' := [.int 5]) (G' := (zg_0 xs)) rfl ?_
  refine zm_J_run zm_T 1 (pc' := 12) (lv' := [(3, .int 5), (2, .int 0), (0, .ref 12), (1, .int v)]) (st' := [.int 6, .int 5]) (G' := (zg_0 xs)) rfl ?_
  refine zm_J_run zm_T 1 (pc' := if (6 : Int32) ≤ 5 then 33 else 15) (lv' := [(3, .int 5), (2, .int 0), (0, .ref 12), (1, .int v)]) (st' := []) (G' := (zg_0 xs)) rfl ?_
  rw [if_neg (show ¬ ((6 : Int32) ≤ 5) by decide +kernel)]
  refine zm_J_run zm_T 8 (pc' := 10) (lv' := [(3, .int 6), (2, .int 0), (0, .ref 12), (1, .int v)]) (st' := [.int 6]) (G' := (zg_0 xs)) rfl ?_
  refine zm_J_run zm_T 1 (pc' := 12) (lv' := [(3, .int 6), (2, .int 0), (0, .ref 12), (1, .int v)]) (st' := [.int 6, .int 6]) (G' := (zg_0 xs)) rfl ?_
  refine zm_J_run zm_T 1 (pc' := if (6 : Int32) ≤ 6 then 33 else 15) (lv' := [(3, .int 6), (2, .int 0), (0, .ref 12), (1, .int v)]) (st' := []) (G' := (zg_0 xs)) rfl ?_
  rw [if_pos (show (6 : Int32) ≤ 6 by decide +kernel)]
  refine zm_J_run zm_T 1 (pc' := 34) (lv' := [(3, .int 6), (2, .int 0), (0, .ref 12), (1, .int v)]) (st' := [.int v]) (G' := (zg_0 xs)) rfl ?_
  exact kk

set_option maxHeartbeats 40000000 in
set_option maxRecDepth 100000 in
/-- NeedMachine.count -/
theorem zk0_538 {xs : Nat → Int32} (N : zm_N) (d : Nat) (hd : 1 ≤ d) : zm_J N d 9 0 [(0, .ref 2), (1, .int 0)] [] (zg_0 xs) (fun z G => z = .inl (some (.int (-1))) ∧ G = (zg_0 xs)) := by
  obtain ⟨d, rfl⟩ : ∃ e, d = e + 1 := ⟨d - 1, by omega⟩
  refine zm_J_run zm_T 5 (pc' := 55) (lv' := [(0, .ref 2), (1, .int 0)]) (st' := [.int (-1)]) (G' := (zg_0 xs)) rfl ?_
  exact zm_J_fin zm_T rfl rfl ⟨rfl, rfl⟩


set_option maxHeartbeats 40000000 in
set_option maxRecDepth 100000 in
/-- NeedMachine.count -/
theorem zk1_539 {xs : Nat → Int32} (N : zm_N) (d : Nat) (hd : 1 ≤ d) : zm_J N d 9 0 [(0, .ref 2), (1, .int 1)] [] (zg_0 xs) (fun z G => z = .inl (some (.int 0)) ∧ G = (zg_0 xs)) := by
  obtain ⟨d, rfl⟩ : ∃ e, d = e + 1 := ⟨d - 1, by omega⟩
  refine zm_J_run zm_T 5 (pc' := 63) (lv' := [(0, .ref 2), (1, .int 1)]) (st' := [.int 0]) (G' := (zg_0 xs)) rfl ?_
  exact zm_J_fin zm_T rfl rfl ⟨rfl, rfl⟩


set_option maxHeartbeats 40000000 in
set_option maxRecDepth 100000 in
/-- NeedMachine.countDefinitions -/
theorem zk2_540 {xs : Nat → Int32} (N : zm_N) (d : Nat) (hd : 1 ≤ d) : zm_J N d 10 0 [(0, .ref 2)] [] (zg_0 xs) (fun z G => z = .inl (some (.int 0)) ∧ G = (zg_0 xs)) := by
  obtain ⟨d, rfl⟩ : ∃ e, d = e + 1 := ⟨d - 1, by omega⟩
  refine zm_J_run zm_T 8 (pc' := 10) (lv' := [(3, .int 6), (2, .ref 11), (1, .int 0), (0, .ref 2)]) (st' := []) (G' := (zg_0 xs)) rfl ?_
  refine zm_J_run zm_T 4 (pc' := 16) (lv' := [(4, .int 0), (3, .int 6), (2, .ref 11), (1, .int 0), (0, .ref 2)]) (st' := [.int 6, .int 0]) (G' := (zg_0 xs)) rfl ?_
  refine zm_J_run zm_T 1 (pc' := if (6 : Int32) ≤ 0 then 39 else 19) (lv' := [(4, .int 0), (3, .int 6), (2, .ref 11), (1, .int 0), (0, .ref 2)]) (st' := []) (G' := (zg_0 xs)) rfl ?_
  rw [if_neg (show ¬ ((6 : Int32) ≤ 0) by decide +kernel)]
  refine zm_J_run zm_T 8 (pc' := 13) (lv' := [(4, .int 1), (5, .null), (3, .int 6), (2, .ref 11), (1, .int 0), (0, .ref 2)]) (st' := []) (G' := (zg_0 xs)) rfl ?_
  refine zm_J_run zm_T 2 (pc' := 16) (lv' := [(4, .int 1), (5, .null), (3, .int 6), (2, .ref 11), (1, .int 0), (0, .ref 2)]) (st' := [.int 6, .int 1]) (G' := (zg_0 xs)) rfl ?_
  refine zm_J_run zm_T 1 (pc' := if (6 : Int32) ≤ 1 then 39 else 19) (lv' := [(4, .int 1), (5, .null), (3, .int 6), (2, .ref 11), (1, .int 0), (0, .ref 2)]) (st' := []) (G' := (zg_0 xs)) rfl ?_
  rw [if_neg (show ¬ ((6 : Int32) ≤ 1) by decide +kernel)]
  refine zm_J_run zm_T 8 (pc' := 13) (lv' := [(4, .int 2), (5, .null), (3, .int 6), (2, .ref 11), (1, .int 0), (0, .ref 2)]) (st' := []) (G' := (zg_0 xs)) rfl ?_
  refine zm_J_run zm_T 2 (pc' := 16) (lv' := [(4, .int 2), (5, .null), (3, .int 6), (2, .ref 11), (1, .int 0), (0, .ref 2)]) (st' := [.int 6, .int 2]) (G' := (zg_0 xs)) rfl ?_
  refine zm_J_run zm_T 1 (pc' := if (6 : Int32) ≤ 2 then 39 else 19) (lv' := [(4, .int 2), (5, .null), (3, .int 6), (2, .ref 11), (1, .int 0), (0, .ref 2)]) (st' := []) (G' := (zg_0 xs)) rfl ?_
  rw [if_neg (show ¬ ((6 : Int32) ≤ 2) by decide +kernel)]
  refine zm_J_run zm_T 8 (pc' := 13) (lv' := [(4, .int 3), (5, .null), (3, .int 6), (2, .ref 11), (1, .int 0), (0, .ref 2)]) (st' := []) (G' := (zg_0 xs)) rfl ?_
  refine zm_J_run zm_T 2 (pc' := 16) (lv' := [(4, .int 3), (5, .null), (3, .int 6), (2, .ref 11), (1, .int 0), (0, .ref 2)]) (st' := [.int 6, .int 3]) (G' := (zg_0 xs)) rfl ?_
  refine zm_J_run zm_T 1 (pc' := if (6 : Int32) ≤ 3 then 39 else 19) (lv' := [(4, .int 3), (5, .null), (3, .int 6), (2, .ref 11), (1, .int 0), (0, .ref 2)]) (st' := []) (G' := (zg_0 xs)) rfl ?_
  rw [if_neg (show ¬ ((6 : Int32) ≤ 3) by decide +kernel)]
  refine zm_J_run zm_T 8 (pc' := 13) (lv' := [(4, .int 4), (5, .null), (3, .int 6), (2, .ref 11), (1, .int 0), (0, .ref 2)]) (st' := []) (G' := (zg_0 xs)) rfl ?_
  refine zm_J_run zm_T 2 (pc' := 16) (lv' := [(4, .int 4), (5, .null), (3, .int 6), (2, .ref 11), (1, .int 0), (0, .ref 2)]) (st' := [.int 6, .int 4]) (G' := (zg_0 xs)) rfl ?_
  refine zm_J_run zm_T 1 (pc' := if (6 : Int32) ≤ 4 then 39 else 19) (lv' := [(4, .int 4), (5, .null), (3, .int 6), (2, .ref 11), (1, .int 0), (0, .ref 2)]) (st' := []) (G' := (zg_0 xs)) rfl ?_
  rw [if_neg (show ¬ ((6 : Int32) ≤ 4) by decide +kernel)]
  refine zm_J_run zm_T 8 (pc' := 13) (lv' := [(4, .int 5), (5, .null), (3, .int 6), (2, .ref 11), (1, .int 0), (0, .ref 2)]) (st' := []) (G' := (zg_0 xs)) rfl ?_
  refine zm_J_run zm_T 2 (pc' := 16) (lv' := [(4, .int 5), (5, .null), (3, .int 6), (2, .ref 11), (1, .int 0), (0, .ref 2)]) (st' := [.int 6, .int 5]) (G' := (zg_0 xs)) rfl ?_
  refine zm_J_run zm_T 1 (pc' := if (6 : Int32) ≤ 5 then 39 else 19) (lv' := [(4, .int 5), (5, .null), (3, .int 6), (2, .ref 11), (1, .int 0), (0, .ref 2)]) (st' := []) (G' := (zg_0 xs)) rfl ?_
  rw [if_neg (show ¬ ((6 : Int32) ≤ 5) by decide +kernel)]
  refine zm_J_run zm_T 8 (pc' := 13) (lv' := [(4, .int 6), (5, .null), (3, .int 6), (2, .ref 11), (1, .int 0), (0, .ref 2)]) (st' := []) (G' := (zg_0 xs)) rfl ?_
  refine zm_J_run zm_T 2 (pc' := 16) (lv' := [(4, .int 6), (5, .null), (3, .int 6), (2, .ref 11), (1, .int 0), (0, .ref 2)]) (st' := [.int 6, .int 6]) (G' := (zg_0 xs)) rfl ?_
  refine zm_J_run zm_T 1 (pc' := if (6 : Int32) ≤ 6 then 39 else 19) (lv' := [(4, .int 6), (5, .null), (3, .int 6), (2, .ref 11), (1, .int 0), (0, .ref 2)]) (st' := []) (G' := (zg_0 xs)) rfl ?_
  rw [if_pos (show (6 : Int32) ≤ 6 by decide +kernel)]
  refine zm_J_run zm_T 1 (pc' := 40) (lv' := [(4, .int 6), (5, .null), (3, .int 6), (2, .ref 11), (1, .int 0), (0, .ref 2)]) (st' := [.int 0]) (G' := (zg_0 xs)) rfl ?_
  exact zm_J_fin zm_T rfl rfl ⟨rfl, rfl⟩

set_option maxHeartbeats 40000000 in
set_option maxRecDepth 100000 in
/-- NeedMachine.count -/
theorem zk2_541 {xs : Nat → Int32} (N : zm_N) (d : Nat) (hd : 2 ≤ d) : zm_J N d 9 0 [(0, .ref 2), (1, .int 2)] [] (zg_0 xs) (fun z G => z = .inl (some (.int 0)) ∧ G = (zg_0 xs)) := by
  obtain ⟨d, rfl⟩ : ∃ e, d = e + 1 := ⟨d - 1, by omega⟩
  refine zm_J_run zm_T 3 (pc' := 65) (lv' := [(0, .ref 2), (1, .int 2)]) (st' := [.ref 2]) (G' := (zg_0 xs)) rfl ?_
  refine zm_J_V (a := 2) (av := []) (rest := []) (Q1 := fun z G => z = .inl (some (.int 0)) ∧ G = (zg_0 xs)) (zm_T.1 9 65 _ rfl).1 zc_9_65 rfl (Nat.le_of_ble_eq_true rfl) (Nat.le_of_ble_eq_true rfl) (Nat.le_of_ble_eq_true rfl) (Nat.le_of_ble_eq_true rfl) (zk2_540 N _ (by omega)) ?_ ?_
  rotate_left
  · intro x G' h; exact nomatch h.1
  intro v G' h
  obtain ⟨h1, rfl⟩ := h
  cases Sum.inl.inj h1
  show zm_J N _ 9 68 [(0, .ref 2), (1, .int 2)] [.int 0] (zg_0 xs) _
  exact zm_J_fin zm_T rfl rfl ⟨rfl, rfl⟩


set_option maxHeartbeats 40000000 in
set_option maxRecDepth 100000 in
/-- NeedMachine.count -/
theorem zk3_542 {xs : Nat → Int32} (N : zm_N) (d : Nat) (hd : 1 ≤ d) : zm_J N d 9 0 [(0, .ref 2), (1, .int 3)] [] (zg_0 xs) (fun z G => z = .inl (some (.int 0)) ∧ G = (zg_0 xs)) := by
  obtain ⟨d, rfl⟩ : ∃ e, d = e + 1 := ⟨d - 1, by omega⟩
  refine zm_J_run zm_T 4 (pc' := 73) (lv' := [(0, .ref 2), (1, .int 3)]) (st' := [.int 0]) (G' := (zg_0 xs)) rfl ?_
  exact zm_J_fin zm_T rfl rfl ⟨rfl, rfl⟩


set_option maxHeartbeats 40000000 in
set_option maxRecDepth 100000 in
/-- NeedMachine.count -/
theorem zk4_543 {xs : Nat → Int32} (N : zm_N) (d : Nat) (hd : 1 ≤ d) : zm_J N d 9 0 [(0, .ref 2), (1, .int 4)] [] (zg_0 xs) (fun z G => z = .inl (some (.int 0)) ∧ G = (zg_0 xs)) := by
  obtain ⟨d, rfl⟩ : ∃ e, d = e + 1 := ⟨d - 1, by omega⟩
  refine zm_J_run zm_T 4 (pc' := 78) (lv' := [(0, .ref 2), (1, .int 4)]) (st' := [.int 0]) (G' := (zg_0 xs)) rfl ?_
  exact zm_J_fin zm_T rfl rfl ⟨rfl, rfl⟩


set_option maxHeartbeats 40000000 in
set_option maxRecDepth 100000 in
/-- NeedMachine.count -/
theorem zk5_544 {xs : Nat → Int32} (N : zm_N) (d : Nat) (hd : 1 ≤ d) : zm_J N d 9 0 [(0, .ref 2), (1, .int 5)] [] (zg_0 xs) (fun z G => z = .inl (some (.int 0)) ∧ G = (zg_0 xs)) := by
  obtain ⟨d, rfl⟩ : ∃ e, d = e + 1 := ⟨d - 1, by omega⟩
  refine zm_J_run zm_T 4 (pc' := 83) (lv' := [(0, .ref 2), (1, .int 5)]) (st' := [.int 0]) (G' := (zg_0 xs)) rfl ?_
  exact zm_J_fin zm_T rfl rfl ⟨rfl, rfl⟩


set_option maxHeartbeats 40000000 in
set_option maxRecDepth 100000 in
/-- NeedMachine.count -/
theorem zk6_545 {xs : Nat → Int32} (N : zm_N) (d : Nat) (hd : 1 ≤ d) : zm_J N d 9 0 [(0, .ref 2), (1, .int 6)] [] (zg_0 xs) (fun z G => z = .inl (some (.int 0)) ∧ G = (zg_0 xs)) := by
  obtain ⟨d, rfl⟩ : ∃ e, d = e + 1 := ⟨d - 1, by omega⟩
  refine zm_J_run zm_T 4 (pc' := 88) (lv' := [(0, .ref 2), (1, .int 6)]) (st' := [.int 0]) (G' := (zg_0 xs)) rfl ?_
  exact zm_J_fin zm_T rfl rfl ⟨rfl, rfl⟩


set_option maxHeartbeats 40000000 in
set_option maxRecDepth 100000 in
/-- NeedMachine.count -/
theorem zk7_546 {xs : Nat → Int32} (N : zm_N) (d : Nat) (hd : 1 ≤ d) : zm_J N d 9 0 [(0, .ref 2), (1, .int 7)] [] (zg_0 xs) (fun z G => z = .inl (some (.int 0)) ∧ G = (zg_0 xs)) := by
  obtain ⟨d, rfl⟩ : ∃ e, d = e + 1 := ⟨d - 1, by omega⟩
  refine zm_J_run zm_T 4 (pc' := 93) (lv' := [(0, .ref 2), (1, .int 7)]) (st' := [.int 0]) (G' := (zg_0 xs)) rfl ?_
  exact zm_J_fin zm_T rfl rfl ⟨rfl, rfl⟩


set_option maxHeartbeats 40000000 in
set_option maxRecDepth 100000 in
theorem zl_ms0 {xs : Nat → Int32} (N : zm_N) (d : Nat) (hd : 1 ≤ d) : zm_J N d 107 34 [(3, .int 6), (2, .int 0), (0, .ref 12), (1, .int 0)] [.int 0] (zg_0 xs) (fun z G => z = .inl (some (.int (-1))) ∧ G = (zg_0 xs)) := by
  obtain ⟨d, rfl⟩ : ∃ e, d = e + 1 := ⟨d - 1, by omega⟩
  refine zm_J_run zm_T 3 (pc' := 84) (lv' := [(3, .int 6), (2, .int 0), (0, .ref 12), (1, .int 0)]) (st' := [.int (-1)]) (G' := (zg_0 xs)) rfl ?_
  exact zm_J_fin zm_T rfl rfl ⟨rfl, rfl⟩

set_option maxHeartbeats 40000000 in
set_option maxRecDepth 100000 in
theorem zl_ms1 {xs : Nat → Int32} (N : zm_N) (d : Nat) (hd : 1 ≤ d) : zm_J N d 107 34 [(3, .int 6), (2, .int 0), (0, .ref 12), (1, .int 1)] [.int 1] (zg_0 xs) (fun z G => z = .inl (some (.int 0)) ∧ G = (zg_0 xs)) := by
  obtain ⟨d, rfl⟩ : ∃ e, d = e + 1 := ⟨d - 1, by omega⟩
  refine zm_J_run zm_T 3 (pc' := 89) (lv' := [(3, .int 6), (2, .int 0), (0, .ref 12), (1, .int 1)]) (st' := [.int 0]) (G' := (zg_0 xs)) rfl ?_
  exact zm_J_fin zm_T rfl rfl ⟨rfl, rfl⟩

set_option maxHeartbeats 40000000 in
set_option maxRecDepth 100000 in
theorem zl_ms2 {xs : Nat → Int32} (N : zm_N) (d : Nat) (hd : 1 ≤ d) : zm_J N d 107 34 [(3, .int 6), (2, .int 0), (0, .ref 12), (1, .int 2)] [.int 2] (zg_0 xs) (fun z G => z = .inl (some (.int 0)) ∧ G = (zg_0 xs)) := by
  obtain ⟨d, rfl⟩ : ∃ e, d = e + 1 := ⟨d - 1, by omega⟩
  refine zm_J_run zm_T 2 (pc' := 91) (lv' := [(3, .int 6), (2, .int 0), (0, .ref 12), (1, .int 2)]) (st' := [.int 0]) (G' := (zg_0 xs)) rfl ?_
  exact zm_J_fin zm_T rfl rfl ⟨rfl, rfl⟩

set_option maxHeartbeats 40000000 in
set_option maxRecDepth 100000 in
theorem zl_ms3 {xs : Nat → Int32} (N : zm_N) (d : Nat) (hd : 1 ≤ d) : zm_J N d 107 34 [(3, .int 6), (2, .int 0), (0, .ref 12), (1, .int 3)] [.int 3] (zg_0 xs) (fun z G => z = .inl (some (.int 0)) ∧ G = (zg_0 xs)) := by
  obtain ⟨d, rfl⟩ : ∃ e, d = e + 1 := ⟨d - 1, by omega⟩
  refine zm_J_run zm_T 3 (pc' := 96) (lv' := [(3, .int 6), (2, .int 0), (0, .ref 12), (1, .int 3)]) (st' := [.int 0]) (G' := (zg_0 xs)) rfl ?_
  exact zm_J_fin zm_T rfl rfl ⟨rfl, rfl⟩

set_option maxHeartbeats 40000000 in
set_option maxRecDepth 100000 in
theorem zl_ms4 {xs : Nat → Int32} (N : zm_N) (d : Nat) (hd : 1 ≤ d) : zm_J N d 107 34 [(3, .int 6), (2, .int 0), (0, .ref 12), (1, .int 4)] [.int 4] (zg_0 xs) (fun z G => z = .inl (some (.int 0)) ∧ G = (zg_0 xs)) := by
  obtain ⟨d, rfl⟩ : ∃ e, d = e + 1 := ⟨d - 1, by omega⟩
  refine zm_J_run zm_T 3 (pc' := 101) (lv' := [(3, .int 6), (2, .int 0), (0, .ref 12), (1, .int 4)]) (st' := [.int 0]) (G' := (zg_0 xs)) rfl ?_
  exact zm_J_fin zm_T rfl rfl ⟨rfl, rfl⟩

set_option maxHeartbeats 40000000 in
set_option maxRecDepth 100000 in
theorem zl_ms5 {xs : Nat → Int32} (N : zm_N) (d : Nat) (hd : 1 ≤ d) : zm_J N d 107 34 [(3, .int 6), (2, .int 0), (0, .ref 12), (1, .int 5)] [.int 5] (zg_0 xs) (fun z G => z = .inl (some (.int 0)) ∧ G = (zg_0 xs)) := by
  obtain ⟨d, rfl⟩ : ∃ e, d = e + 1 := ⟨d - 1, by omega⟩
  refine zm_J_run zm_T 3 (pc' := 106) (lv' := [(3, .int 6), (2, .int 0), (0, .ref 12), (1, .int 5)]) (st' := [.int 0]) (G' := (zg_0 xs)) rfl ?_
  exact zm_J_fin zm_T rfl rfl ⟨rfl, rfl⟩

set_option maxHeartbeats 40000000 in
set_option maxRecDepth 100000 in
theorem zl_ms6 {xs : Nat → Int32} (N : zm_N) (d : Nat) (hd : 1 ≤ d) : zm_J N d 107 34 [(3, .int 6), (2, .int 0), (0, .ref 12), (1, .int 6)] [.int 6] (zg_0 xs) (fun z G => z = .inl (some (.int 0)) ∧ G = (zg_0 xs)) := by
  obtain ⟨d, rfl⟩ : ∃ e, d = e + 1 := ⟨d - 1, by omega⟩
  refine zm_J_run zm_T 3 (pc' := 111) (lv' := [(3, .int 6), (2, .int 0), (0, .ref 12), (1, .int 6)]) (st' := [.int 0]) (G' := (zg_0 xs)) rfl ?_
  exact zm_J_fin zm_T rfl rfl ⟨rfl, rfl⟩

set_option maxHeartbeats 40000000 in
set_option maxRecDepth 100000 in
theorem zl_ms7 {xs : Nat → Int32} (N : zm_N) (d : Nat) (hd : 1 ≤ d) : zm_J N d 107 34 [(3, .int 6), (2, .int 0), (0, .ref 12), (1, .int 7)] [.int 7] (zg_0 xs) (fun z G => z = .inl (some (.int 0)) ∧ G = (zg_0 xs)) := by
  obtain ⟨d, rfl⟩ : ∃ e, d = e + 1 := ⟨d - 1, by omega⟩
  refine zm_J_run zm_T 3 (pc' := 116) (lv' := [(3, .int 6), (2, .int 0), (0, .ref 12), (1, .int 7)]) (st' := [.int 0]) (G' := (zg_0 xs)) rfl ?_
  exact zm_J_fin zm_T rfl rfl ⟨rfl, rfl⟩

def zg_8 (xs : Nat → Int32) : zm_H := ([.inl (0, 0, .inl xs), .inr (99, []), .inr (0, [.ref 3, .ref 6, .ref 11, .null, .int 0, .int 0, .int 0, .int 0, .int 0]), .inr (1, [.int 0, .int (-1), .ref 4, .ref 5, .int 0, .int 0, .int 0, .int 0]), .inl (1, 40, .inl fun _ => 0), .inl (1, 4, .inl fun _ => 0), .inr (2, [.ref 7, .ref 8, .ref 9, .ref 10, .int 0, .int 0, .int 0]), .inr (3, [.int 1, .int 0, .null, .null, .null]), .inr (4, [.ref 1, .int 0, .int 0]), .inr (4, [.ref 1, .int 0, .int 0]), .inr (4, [.ref 1, .int 0, .int 0]), .inl (4, 6, .inr (.inr (.inr (.inr fun _ => none)))), .inr (5, [.ref 13, .ref 14, .ref 15, .ref 16, .ref 17, .ref 18, .ref 19, .ref 20, .int 0, .int (-1), .int 0, .int 0, .int 0, .ref 21, .ref 22, .ref 23, .ref 24, .ref 25, .ref 26, .ref 27, .ref 28, .ref 29, .ref 30, .int 0, .int 0, .int 0, .ref 31, .ref 32, .ref 33, .ref 34, .ref 35, .int 0, .int 0, .int 0, .int 0, .int 0, .int 0, .int 0, .int 0, .int 0, .int 0, .int 0, .int 0, .int 0]), .inl (0, 40, .inl fun _ => 0), .inl (0, 21200, .inl fun _ => 0), .inl (0, 240, .inl fun _ => 0), .inl (0, 6, .inl fun _ => 0), .inl (0, 24, .inl fun _ => 0), .inl (0, 6, .inl fun _ => 0), .inl (0, 16, .inl fun _ => 0), .inl (3, 6, .inl fun _ => 0), .inl (0, 16400, .inl fun _ => 0), .inl (0, 16400, .inl fun _ => 0), .inl (0, 16400, .inl fun _ => 0), .inl (0, 16400, .inl fun _ => 0), .inl (0, 16400, .inl fun _ => 0), .inl (0, 16400, .inl fun _ => 0), .inl (0, 1700, .inl fun _ => 0), .inl (0, 1700, .inl fun _ => 0), .inl (0, 16400, .inl fun _ => 0), .inl (0, 16400, .inl fun _ => 0), .inl (0, 64, .inl fun _ => 0), .inl (0, 64, .inl fun _ => 0), .inl (0, 64, .inl fun _ => 0), .inl (0, 64, .inl fun _ => 0), .inl (0, 64, .inl fun _ => 0), .inl (2, 1, .inr (.inl fun _ => 0))], 156591)
set_option maxHeartbeats 40000000 in
set_option maxRecDepth 100000 in
theorem zl_ex0 {xs : Nat → Int32} (N : zm_N) (d : Nat) (hd : 1 ≤ d) : zm_J N d 0 23 [(4, .int 0), (3, .ref 36), (2, .ref 12), (1, .ref 2), (0, .ref 0)] [] (zg_8 xs) (fun z G => z = .inl (some (.int 1)) ∧ G = (zg_8 xs)) := by
  obtain ⟨d, rfl⟩ : ∃ e, d = e + 1 := ⟨d - 1, by omega⟩
  refine zm_J_run zm_T 5 (pc' := 29) (lv' := [(4, .int 0), (3, .ref 36), (2, .ref 12), (1, .ref 2), (0, .ref 0)]) (st' := [.int (0 - 3), .int 0]) (G' := (zg_8 xs)) rfl ?_
  refine zm_J_run zm_T 1 (pc' := if ((0 - 3) : Int32) < 0 then 459 else 32) (lv' := [(4, .int 0), (3, .ref 36), (2, .ref 12), (1, .ref 2), (0, .ref 0)]) (st' := []) (G' := (zg_8 xs)) rfl ?_
  rw [if_pos (show ((0 - 3) : Int32) < 0 by decide +kernel)]
  refine zm_J_run zm_T 1 (pc' := 460) (lv' := [(4, .int 0), (3, .ref 36), (2, .ref 12), (1, .ref 2), (0, .ref 0)]) (st' := [.int 1]) (G' := (zg_8 xs)) rfl ?_
  exact zm_J_fin zm_T rfl rfl ⟨rfl, rfl⟩

def zg_9 (xs : Nat → Int32) : zm_H := ([.inl (0, 1, .inl xs), .inr (99, []), .inr (0, [.ref 3, .ref 6, .ref 11, .null, .int 0, .int 0, .int 0, .int 0, .int 0]), .inr (1, [.int 0, .int (-1), .ref 4, .ref 5, .int 0, .int 0, .int 0, .int 0]), .inl (1, 40, .inl fun _ => 0), .inl (1, 4, .inl fun _ => 0), .inr (2, [.ref 7, .ref 8, .ref 9, .ref 10, .int 0, .int 0, .int 0]), .inr (3, [.int 1, .int 0, .null, .null, .null]), .inr (4, [.ref 1, .int 0, .int 0]), .inr (4, [.ref 1, .int 0, .int 0]), .inr (4, [.ref 1, .int 0, .int 0]), .inl (4, 6, .inr (.inr (.inr (.inr fun _ => none)))), .inr (5, [.ref 13, .ref 14, .ref 15, .ref 16, .ref 17, .ref 18, .ref 19, .ref 20, .int 0, .int (-1), .int 0, .int 0, .int 0, .ref 21, .ref 22, .ref 23, .ref 24, .ref 25, .ref 26, .ref 27, .ref 28, .ref 29, .ref 30, .int 0, .int 0, .int 0, .ref 31, .ref 32, .ref 33, .ref 34, .ref 35, .int 0, .int 0, .int 0, .int 0, .int 0, .int 0, .int 0, .int 0, .int 0, .int 0, .int 0, .int 0, .int 0]), .inl (0, 40, .inl fun _ => 0), .inl (0, 21200, .inl fun _ => 0), .inl (0, 240, .inl fun _ => 0), .inl (0, 6, .inl fun _ => 0), .inl (0, 24, .inl fun _ => 0), .inl (0, 6, .inl fun _ => 0), .inl (0, 16, .inl fun _ => 0), .inl (3, 6, .inl fun _ => 0), .inl (0, 16400, .inl fun _ => 0), .inl (0, 16400, .inl fun _ => 0), .inl (0, 16400, .inl fun _ => 0), .inl (0, 16400, .inl fun _ => 0), .inl (0, 16400, .inl fun _ => 0), .inl (0, 16400, .inl fun _ => 0), .inl (0, 1700, .inl fun _ => 0), .inl (0, 1700, .inl fun _ => 0), .inl (0, 16400, .inl fun _ => 0), .inl (0, 16400, .inl fun _ => 0), .inl (0, 64, .inl fun _ => 0), .inl (0, 64, .inl fun _ => 0), .inl (0, 64, .inl fun _ => 0), .inl (0, 64, .inl fun _ => 0), .inl (0, 64, .inl fun _ => 0), .inl (2, 1, .inr (.inl fun _ => 0))], 156591)
set_option maxHeartbeats 40000000 in
set_option maxRecDepth 100000 in
theorem zl_ex1 {xs : Nat → Int32} (N : zm_N) (d : Nat) (hd : 1 ≤ d) : zm_J N d 0 23 [(4, .int 0), (3, .ref 36), (2, .ref 12), (1, .ref 2), (0, .ref 0)] [] (zg_9 xs) (fun z G => z = .inl (some (.int 1)) ∧ G = (zg_9 xs)) := by
  obtain ⟨d, rfl⟩ : ∃ e, d = e + 1 := ⟨d - 1, by omega⟩
  refine zm_J_run zm_T 5 (pc' := 29) (lv' := [(4, .int 0), (3, .ref 36), (2, .ref 12), (1, .ref 2), (0, .ref 0)]) (st' := [.int (1 - 3), .int 0]) (G' := (zg_9 xs)) rfl ?_
  refine zm_J_run zm_T 1 (pc' := if ((1 - 3) : Int32) < 0 then 459 else 32) (lv' := [(4, .int 0), (3, .ref 36), (2, .ref 12), (1, .ref 2), (0, .ref 0)]) (st' := []) (G' := (zg_9 xs)) rfl ?_
  rw [if_pos (show ((1 - 3) : Int32) < 0 by decide +kernel)]
  refine zm_J_run zm_T 1 (pc' := 460) (lv' := [(4, .int 0), (3, .ref 36), (2, .ref 12), (1, .ref 2), (0, .ref 0)]) (st' := [.int 1]) (G' := (zg_9 xs)) rfl ?_
  exact zm_J_fin zm_T rfl rfl ⟨rfl, rfl⟩

def zg_10 (xs : Nat → Int32) : zm_H := ([.inl (0, 2, .inl xs), .inr (99, []), .inr (0, [.ref 3, .ref 6, .ref 11, .null, .int 0, .int 0, .int 0, .int 0, .int 0]), .inr (1, [.int 0, .int (-1), .ref 4, .ref 5, .int 0, .int 0, .int 0, .int 0]), .inl (1, 40, .inl fun _ => 0), .inl (1, 4, .inl fun _ => 0), .inr (2, [.ref 7, .ref 8, .ref 9, .ref 10, .int 0, .int 0, .int 0]), .inr (3, [.int 1, .int 0, .null, .null, .null]), .inr (4, [.ref 1, .int 0, .int 0]), .inr (4, [.ref 1, .int 0, .int 0]), .inr (4, [.ref 1, .int 0, .int 0]), .inl (4, 6, .inr (.inr (.inr (.inr fun _ => none)))), .inr (5, [.ref 13, .ref 14, .ref 15, .ref 16, .ref 17, .ref 18, .ref 19, .ref 20, .int 0, .int (-1), .int 0, .int 0, .int 0, .ref 21, .ref 22, .ref 23, .ref 24, .ref 25, .ref 26, .ref 27, .ref 28, .ref 29, .ref 30, .int 0, .int 0, .int 0, .ref 31, .ref 32, .ref 33, .ref 34, .ref 35, .int 0, .int 0, .int 0, .int 0, .int 0, .int 0, .int 0, .int 0, .int 0, .int 0, .int 0, .int 0, .int 0]), .inl (0, 40, .inl fun _ => 0), .inl (0, 21200, .inl fun _ => 0), .inl (0, 240, .inl fun _ => 0), .inl (0, 6, .inl fun _ => 0), .inl (0, 24, .inl fun _ => 0), .inl (0, 6, .inl fun _ => 0), .inl (0, 16, .inl fun _ => 0), .inl (3, 6, .inl fun _ => 0), .inl (0, 16400, .inl fun _ => 0), .inl (0, 16400, .inl fun _ => 0), .inl (0, 16400, .inl fun _ => 0), .inl (0, 16400, .inl fun _ => 0), .inl (0, 16400, .inl fun _ => 0), .inl (0, 16400, .inl fun _ => 0), .inl (0, 1700, .inl fun _ => 0), .inl (0, 1700, .inl fun _ => 0), .inl (0, 16400, .inl fun _ => 0), .inl (0, 16400, .inl fun _ => 0), .inl (0, 64, .inl fun _ => 0), .inl (0, 64, .inl fun _ => 0), .inl (0, 64, .inl fun _ => 0), .inl (0, 64, .inl fun _ => 0), .inl (0, 64, .inl fun _ => 0), .inl (2, 1, .inr (.inl fun _ => 0))], 156591)
set_option maxHeartbeats 40000000 in
set_option maxRecDepth 100000 in
theorem zl_ex2 {xs : Nat → Int32} (N : zm_N) (d : Nat) (hd : 1 ≤ d) : zm_J N d 0 23 [(4, .int 0), (3, .ref 36), (2, .ref 12), (1, .ref 2), (0, .ref 0)] [] (zg_10 xs) (fun z G => z = .inl (some (.int 1)) ∧ G = (zg_10 xs)) := by
  obtain ⟨d, rfl⟩ : ∃ e, d = e + 1 := ⟨d - 1, by omega⟩
  refine zm_J_run zm_T 5 (pc' := 29) (lv' := [(4, .int 0), (3, .ref 36), (2, .ref 12), (1, .ref 2), (0, .ref 0)]) (st' := [.int (2 - 3), .int 0]) (G' := (zg_10 xs)) rfl ?_
  refine zm_J_run zm_T 1 (pc' := if ((2 - 3) : Int32) < 0 then 459 else 32) (lv' := [(4, .int 0), (3, .ref 36), (2, .ref 12), (1, .ref 2), (0, .ref 0)]) (st' := []) (G' := (zg_10 xs)) rfl ?_
  rw [if_pos (show ((2 - 3) : Int32) < 0 by decide +kernel)]
  refine zm_J_run zm_T 1 (pc' := 460) (lv' := [(4, .int 0), (3, .ref 36), (2, .ref 12), (1, .ref 2), (0, .ref 0)]) (st' := [.int 1]) (G' := (zg_10 xs)) rfl ?_
  exact zm_J_fin zm_T rfl rfl ⟨rfl, rfl⟩

set_option maxHeartbeats 40000000 in
set_option maxRecDepth 100000 in
theorem zl_in {xs : Nat → Int32} (N : zm_N) (d : Nat) (hd : 1 ≤ d) {Q : zm_O → zm_H → Prop} (kk : zm_J N d 0 36 [(4, .int 0), (3, .ref 36), (2, .ref 12), (1, .ref 2), (0, .ref 0)] [.int (xs 0)] (zg_0 xs) Q) : zm_J N d 0 23 [(4, .int 0), (3, .ref 36), (2, .ref 12), (1, .ref 2), (0, .ref 0)] [] (zg_0 xs) Q := by
  obtain ⟨d, rfl⟩ : ∃ e, d = e + 1 := ⟨d - 1, by omega⟩
  refine zm_J_run zm_T 5 (pc' := 29) (lv' := [(4, .int 0), (3, .ref 36), (2, .ref 12), (1, .ref 2), (0, .ref 0)]) (st' := [.int (3 - 3), .int 0]) (G' := (zg_0 xs)) rfl ?_
  refine zm_J_run zm_T 1 (pc' := if ((3 - 3) : Int32) < 0 then 459 else 32) (lv' := [(4, .int 0), (3, .ref 36), (2, .ref 12), (1, .ref 2), (0, .ref 0)]) (st' := []) (G' := (zg_0 xs)) rfl ?_
  rw [if_neg (show ¬ (((3 - 3) : Int32) < 0) by decide +kernel)]
  refine zm_J_run zm_T 3 (pc' := 36) (lv' := [(4, .int 0), (3, .ref 36), (2, .ref 12), (1, .ref 2), (0, .ref 0)]) (st' := [.int (xs 0)]) (G' := (zg_0 xs)) rfl ?_
  exact kk

set_option maxRecDepth 100000 in
set_option maxHeartbeats 4000000 in
theorem zl_c0 {xs : Nat → Int32} (h : xs 1 = 0) (N : zm_N) (d : Nat) (hd : 12 ≤ d) : zm_J N d 0 39 [(4, .int 0), (3, .ref 36), (2, .ref 12), (1, .ref 2), (0, .ref 0)] [.int 7] (zg_0 xs) zl_Q := by
  obtain ⟨d, rfl⟩ : ∃ e, d = e + 1 := ⟨d - 1, by omega⟩
  refine zm_J_run zm_T 7 (pc' := 435) (lv' := [(4, .int 0), (3, .ref 36), (2, .ref 12), (1, .ref 2), (0, .ref 0)]) (st' := [.int (xs 1), .ref 2]) (G' := (zg_0 xs)) rfl ?_
  rw [h]
  refine zm_J_V (a := 2) (av := [.int 0]) (rest := []) (Q1 := fun z G' => z = .inl (some (.int (-1))) ∧ G' = (zg_0 xs)) (zm_T.1 0 435 _ rfl).1 zc_0_435 rfl (Nat.le_of_ble_eq_true rfl) (Nat.le_of_ble_eq_true rfl) (Nat.le_of_ble_eq_true rfl) (Nat.le_of_ble_eq_true rfl) (zk0_538 N d (by omega)) ?_ ?_
  rotate_left
  · intro x G' h; exact nomatch h.1
  intro w G' hw
  obtain ⟨h1, rfl⟩ := hw
  cases Sum.inl.inj h1
  refine zm_J_run zm_T 6 (pc' := 445) (lv' := [(4, .int 0), (3, .ref 36), (2, .ref 12), (1, .ref 2), (0, .ref 0)]) (st' := [.int (xs 1), .ref 12, .int (-1)]) (G' := (zg_0 xs)) rfl ?_
  rw [h]
  refine zm_J_V (a := 12) (av := [.int 0]) (rest := [.int (-1)]) (Q1 := fun z G' => z = .inl (some (.int (-1))) ∧ G' = (zg_0 xs)) (zm_T.1 0 445 _ rfl).1 zc_0_445 rfl (Nat.le_of_ble_eq_true rfl) (Nat.le_of_ble_eq_true rfl) (Nat.le_of_ble_eq_true rfl) (Nat.le_of_ble_eq_true rfl) (zl_mc 0 N d (by omega) (zl_ms0 N d (by omega))) ?_ ?_
  rotate_left
  · intro x G' h; exact nomatch h.1
  intro w G' hw
  obtain ⟨h1, rfl⟩ := hw
  cases Sum.inl.inj h1
  refine zm_J_run zm_T 1 (pc' := 453) (lv' := [(4, .int 0), (3, .ref 36), (2, .ref 12), (1, .ref 2), (0, .ref 0)]) (st' := []) (G' := (zg_0 xs)) rfl ?_
  refine zm_J_run zm_T 2 (pc' := 23) (lv' := [(4, .int 3), (3, .ref 36), (2, .ref 12), (1, .ref 2), (0, .ref 0)]) (st' := []) (G' := (zg_0 xs)) rfl ?_
  refine zm_J_run zm_T 5 (pc' := 29) (lv' := [(4, .int 3), (3, .ref 36), (2, .ref 12), (1, .ref 2), (0, .ref 0)]) (st' := [.int (3 - 3), .int 3]) (G' := (zg_0 xs)) rfl ?_
  refine zm_J_run zm_T 1 (pc' := if (3 - 3 : Int32) < 3 then 459 else 32) (lv' := [(4, .int 3), (3, .ref 36), (2, .ref 12), (1, .ref 2), (0, .ref 0)]) (st' := []) (G' := (zg_0 xs)) rfl ?_
  rw [if_pos (show (3 - 3 : Int32) < 3 by decide +kernel)]
  refine zm_J_run zm_T 1 (pc' := 460) (lv' := [(4, .int 3), (3, .ref 36), (2, .ref 12), (1, .ref 2), (0, .ref 0)]) (st' := [.int 1]) (G' := (zg_0 xs)) rfl ?_
  exact zm_J_fin zm_T rfl rfl ⟨rfl, Nat.le_of_ble_eq_true rfl, Nat.le_of_ble_eq_true rfl⟩
set_option maxRecDepth 100000 in
set_option maxHeartbeats 4000000 in
theorem zl_c1 {xs : Nat → Int32} (h : xs 1 = 1) (N : zm_N) (d : Nat) (hd : 12 ≤ d) : zm_J N d 0 39 [(4, .int 0), (3, .ref 36), (2, .ref 12), (1, .ref 2), (0, .ref 0)] [.int 7] (zg_0 xs) zl_Q := by
  obtain ⟨d, rfl⟩ : ∃ e, d = e + 1 := ⟨d - 1, by omega⟩
  refine zm_J_run zm_T 7 (pc' := 435) (lv' := [(4, .int 0), (3, .ref 36), (2, .ref 12), (1, .ref 2), (0, .ref 0)]) (st' := [.int (xs 1), .ref 2]) (G' := (zg_0 xs)) rfl ?_
  rw [h]
  refine zm_J_V (a := 2) (av := [.int 1]) (rest := []) (Q1 := fun z G' => z = .inl (some (.int 0)) ∧ G' = (zg_0 xs)) (zm_T.1 0 435 _ rfl).1 zc_0_435 rfl (Nat.le_of_ble_eq_true rfl) (Nat.le_of_ble_eq_true rfl) (Nat.le_of_ble_eq_true rfl) (Nat.le_of_ble_eq_true rfl) (zk1_539 N d (by omega)) ?_ ?_
  rotate_left
  · intro x G' h; exact nomatch h.1
  intro w G' hw
  obtain ⟨h1, rfl⟩ := hw
  cases Sum.inl.inj h1
  refine zm_J_run zm_T 6 (pc' := 445) (lv' := [(4, .int 0), (3, .ref 36), (2, .ref 12), (1, .ref 2), (0, .ref 0)]) (st' := [.int (xs 1), .ref 12, .int 0]) (G' := (zg_0 xs)) rfl ?_
  rw [h]
  refine zm_J_V (a := 12) (av := [.int 1]) (rest := [.int 0]) (Q1 := fun z G' => z = .inl (some (.int 0)) ∧ G' = (zg_0 xs)) (zm_T.1 0 445 _ rfl).1 zc_0_445 rfl (Nat.le_of_ble_eq_true rfl) (Nat.le_of_ble_eq_true rfl) (Nat.le_of_ble_eq_true rfl) (Nat.le_of_ble_eq_true rfl) (zl_mc 1 N d (by omega) (zl_ms1 N d (by omega))) ?_ ?_
  rotate_left
  · intro x G' h; exact nomatch h.1
  intro w G' hw
  obtain ⟨h1, rfl⟩ := hw
  cases Sum.inl.inj h1
  refine zm_J_run zm_T 1 (pc' := 453) (lv' := [(4, .int 0), (3, .ref 36), (2, .ref 12), (1, .ref 2), (0, .ref 0)]) (st' := []) (G' := (zg_0 xs)) rfl ?_
  refine zm_J_run zm_T 2 (pc' := 23) (lv' := [(4, .int 3), (3, .ref 36), (2, .ref 12), (1, .ref 2), (0, .ref 0)]) (st' := []) (G' := (zg_0 xs)) rfl ?_
  refine zm_J_run zm_T 5 (pc' := 29) (lv' := [(4, .int 3), (3, .ref 36), (2, .ref 12), (1, .ref 2), (0, .ref 0)]) (st' := [.int (3 - 3), .int 3]) (G' := (zg_0 xs)) rfl ?_
  refine zm_J_run zm_T 1 (pc' := if (3 - 3 : Int32) < 3 then 459 else 32) (lv' := [(4, .int 3), (3, .ref 36), (2, .ref 12), (1, .ref 2), (0, .ref 0)]) (st' := []) (G' := (zg_0 xs)) rfl ?_
  rw [if_pos (show (3 - 3 : Int32) < 3 by decide +kernel)]
  refine zm_J_run zm_T 1 (pc' := 460) (lv' := [(4, .int 3), (3, .ref 36), (2, .ref 12), (1, .ref 2), (0, .ref 0)]) (st' := [.int 1]) (G' := (zg_0 xs)) rfl ?_
  exact zm_J_fin zm_T rfl rfl ⟨rfl, Nat.le_of_ble_eq_true rfl, Nat.le_of_ble_eq_true rfl⟩
set_option maxRecDepth 100000 in
set_option maxHeartbeats 4000000 in
theorem zl_c2 {xs : Nat → Int32} (h : xs 1 = 2) (N : zm_N) (d : Nat) (hd : 12 ≤ d) : zm_J N d 0 39 [(4, .int 0), (3, .ref 36), (2, .ref 12), (1, .ref 2), (0, .ref 0)] [.int 7] (zg_0 xs) zl_Q := by
  obtain ⟨d, rfl⟩ : ∃ e, d = e + 1 := ⟨d - 1, by omega⟩
  refine zm_J_run zm_T 7 (pc' := 435) (lv' := [(4, .int 0), (3, .ref 36), (2, .ref 12), (1, .ref 2), (0, .ref 0)]) (st' := [.int (xs 1), .ref 2]) (G' := (zg_0 xs)) rfl ?_
  rw [h]
  refine zm_J_V (a := 2) (av := [.int 2]) (rest := []) (Q1 := fun z G' => z = .inl (some (.int 0)) ∧ G' = (zg_0 xs)) (zm_T.1 0 435 _ rfl).1 zc_0_435 rfl (Nat.le_of_ble_eq_true rfl) (Nat.le_of_ble_eq_true rfl) (Nat.le_of_ble_eq_true rfl) (Nat.le_of_ble_eq_true rfl) (zk2_541 N d (by omega)) ?_ ?_
  rotate_left
  · intro x G' h; exact nomatch h.1
  intro w G' hw
  obtain ⟨h1, rfl⟩ := hw
  cases Sum.inl.inj h1
  refine zm_J_run zm_T 6 (pc' := 445) (lv' := [(4, .int 0), (3, .ref 36), (2, .ref 12), (1, .ref 2), (0, .ref 0)]) (st' := [.int (xs 1), .ref 12, .int 0]) (G' := (zg_0 xs)) rfl ?_
  rw [h]
  refine zm_J_V (a := 12) (av := [.int 2]) (rest := [.int 0]) (Q1 := fun z G' => z = .inl (some (.int 0)) ∧ G' = (zg_0 xs)) (zm_T.1 0 445 _ rfl).1 zc_0_445 rfl (Nat.le_of_ble_eq_true rfl) (Nat.le_of_ble_eq_true rfl) (Nat.le_of_ble_eq_true rfl) (Nat.le_of_ble_eq_true rfl) (zl_mc 2 N d (by omega) (zl_ms2 N d (by omega))) ?_ ?_
  rotate_left
  · intro x G' h; exact nomatch h.1
  intro w G' hw
  obtain ⟨h1, rfl⟩ := hw
  cases Sum.inl.inj h1
  refine zm_J_run zm_T 1 (pc' := 453) (lv' := [(4, .int 0), (3, .ref 36), (2, .ref 12), (1, .ref 2), (0, .ref 0)]) (st' := []) (G' := (zg_0 xs)) rfl ?_
  refine zm_J_run zm_T 2 (pc' := 23) (lv' := [(4, .int 3), (3, .ref 36), (2, .ref 12), (1, .ref 2), (0, .ref 0)]) (st' := []) (G' := (zg_0 xs)) rfl ?_
  refine zm_J_run zm_T 5 (pc' := 29) (lv' := [(4, .int 3), (3, .ref 36), (2, .ref 12), (1, .ref 2), (0, .ref 0)]) (st' := [.int (3 - 3), .int 3]) (G' := (zg_0 xs)) rfl ?_
  refine zm_J_run zm_T 1 (pc' := if (3 - 3 : Int32) < 3 then 459 else 32) (lv' := [(4, .int 3), (3, .ref 36), (2, .ref 12), (1, .ref 2), (0, .ref 0)]) (st' := []) (G' := (zg_0 xs)) rfl ?_
  rw [if_pos (show (3 - 3 : Int32) < 3 by decide +kernel)]
  refine zm_J_run zm_T 1 (pc' := 460) (lv' := [(4, .int 3), (3, .ref 36), (2, .ref 12), (1, .ref 2), (0, .ref 0)]) (st' := [.int 1]) (G' := (zg_0 xs)) rfl ?_
  exact zm_J_fin zm_T rfl rfl ⟨rfl, Nat.le_of_ble_eq_true rfl, Nat.le_of_ble_eq_true rfl⟩
set_option maxRecDepth 100000 in
set_option maxHeartbeats 4000000 in
theorem zl_c3 {xs : Nat → Int32} (h : xs 1 = 3) (N : zm_N) (d : Nat) (hd : 12 ≤ d) : zm_J N d 0 39 [(4, .int 0), (3, .ref 36), (2, .ref 12), (1, .ref 2), (0, .ref 0)] [.int 7] (zg_0 xs) zl_Q := by
  obtain ⟨d, rfl⟩ : ∃ e, d = e + 1 := ⟨d - 1, by omega⟩
  refine zm_J_run zm_T 7 (pc' := 435) (lv' := [(4, .int 0), (3, .ref 36), (2, .ref 12), (1, .ref 2), (0, .ref 0)]) (st' := [.int (xs 1), .ref 2]) (G' := (zg_0 xs)) rfl ?_
  rw [h]
  refine zm_J_V (a := 2) (av := [.int 3]) (rest := []) (Q1 := fun z G' => z = .inl (some (.int 0)) ∧ G' = (zg_0 xs)) (zm_T.1 0 435 _ rfl).1 zc_0_435 rfl (Nat.le_of_ble_eq_true rfl) (Nat.le_of_ble_eq_true rfl) (Nat.le_of_ble_eq_true rfl) (Nat.le_of_ble_eq_true rfl) (zk3_542 N d (by omega)) ?_ ?_
  rotate_left
  · intro x G' h; exact nomatch h.1
  intro w G' hw
  obtain ⟨h1, rfl⟩ := hw
  cases Sum.inl.inj h1
  refine zm_J_run zm_T 6 (pc' := 445) (lv' := [(4, .int 0), (3, .ref 36), (2, .ref 12), (1, .ref 2), (0, .ref 0)]) (st' := [.int (xs 1), .ref 12, .int 0]) (G' := (zg_0 xs)) rfl ?_
  rw [h]
  refine zm_J_V (a := 12) (av := [.int 3]) (rest := [.int 0]) (Q1 := fun z G' => z = .inl (some (.int 0)) ∧ G' = (zg_0 xs)) (zm_T.1 0 445 _ rfl).1 zc_0_445 rfl (Nat.le_of_ble_eq_true rfl) (Nat.le_of_ble_eq_true rfl) (Nat.le_of_ble_eq_true rfl) (Nat.le_of_ble_eq_true rfl) (zl_mc 3 N d (by omega) (zl_ms3 N d (by omega))) ?_ ?_
  rotate_left
  · intro x G' h; exact nomatch h.1
  intro w G' hw
  obtain ⟨h1, rfl⟩ := hw
  cases Sum.inl.inj h1
  refine zm_J_run zm_T 1 (pc' := 453) (lv' := [(4, .int 0), (3, .ref 36), (2, .ref 12), (1, .ref 2), (0, .ref 0)]) (st' := []) (G' := (zg_0 xs)) rfl ?_
  refine zm_J_run zm_T 2 (pc' := 23) (lv' := [(4, .int 3), (3, .ref 36), (2, .ref 12), (1, .ref 2), (0, .ref 0)]) (st' := []) (G' := (zg_0 xs)) rfl ?_
  refine zm_J_run zm_T 5 (pc' := 29) (lv' := [(4, .int 3), (3, .ref 36), (2, .ref 12), (1, .ref 2), (0, .ref 0)]) (st' := [.int (3 - 3), .int 3]) (G' := (zg_0 xs)) rfl ?_
  refine zm_J_run zm_T 1 (pc' := if (3 - 3 : Int32) < 3 then 459 else 32) (lv' := [(4, .int 3), (3, .ref 36), (2, .ref 12), (1, .ref 2), (0, .ref 0)]) (st' := []) (G' := (zg_0 xs)) rfl ?_
  rw [if_pos (show (3 - 3 : Int32) < 3 by decide +kernel)]
  refine zm_J_run zm_T 1 (pc' := 460) (lv' := [(4, .int 3), (3, .ref 36), (2, .ref 12), (1, .ref 2), (0, .ref 0)]) (st' := [.int 1]) (G' := (zg_0 xs)) rfl ?_
  exact zm_J_fin zm_T rfl rfl ⟨rfl, Nat.le_of_ble_eq_true rfl, Nat.le_of_ble_eq_true rfl⟩
set_option maxRecDepth 100000 in
set_option maxHeartbeats 4000000 in
theorem zl_c4 {xs : Nat → Int32} (h : xs 1 = 4) (N : zm_N) (d : Nat) (hd : 12 ≤ d) : zm_J N d 0 39 [(4, .int 0), (3, .ref 36), (2, .ref 12), (1, .ref 2), (0, .ref 0)] [.int 7] (zg_0 xs) zl_Q := by
  obtain ⟨d, rfl⟩ : ∃ e, d = e + 1 := ⟨d - 1, by omega⟩
  refine zm_J_run zm_T 7 (pc' := 435) (lv' := [(4, .int 0), (3, .ref 36), (2, .ref 12), (1, .ref 2), (0, .ref 0)]) (st' := [.int (xs 1), .ref 2]) (G' := (zg_0 xs)) rfl ?_
  rw [h]
  refine zm_J_V (a := 2) (av := [.int 4]) (rest := []) (Q1 := fun z G' => z = .inl (some (.int 0)) ∧ G' = (zg_0 xs)) (zm_T.1 0 435 _ rfl).1 zc_0_435 rfl (Nat.le_of_ble_eq_true rfl) (Nat.le_of_ble_eq_true rfl) (Nat.le_of_ble_eq_true rfl) (Nat.le_of_ble_eq_true rfl) (zk4_543 N d (by omega)) ?_ ?_
  rotate_left
  · intro x G' h; exact nomatch h.1
  intro w G' hw
  obtain ⟨h1, rfl⟩ := hw
  cases Sum.inl.inj h1
  refine zm_J_run zm_T 6 (pc' := 445) (lv' := [(4, .int 0), (3, .ref 36), (2, .ref 12), (1, .ref 2), (0, .ref 0)]) (st' := [.int (xs 1), .ref 12, .int 0]) (G' := (zg_0 xs)) rfl ?_
  rw [h]
  refine zm_J_V (a := 12) (av := [.int 4]) (rest := [.int 0]) (Q1 := fun z G' => z = .inl (some (.int 0)) ∧ G' = (zg_0 xs)) (zm_T.1 0 445 _ rfl).1 zc_0_445 rfl (Nat.le_of_ble_eq_true rfl) (Nat.le_of_ble_eq_true rfl) (Nat.le_of_ble_eq_true rfl) (Nat.le_of_ble_eq_true rfl) (zl_mc 4 N d (by omega) (zl_ms4 N d (by omega))) ?_ ?_
  rotate_left
  · intro x G' h; exact nomatch h.1
  intro w G' hw
  obtain ⟨h1, rfl⟩ := hw
  cases Sum.inl.inj h1
  refine zm_J_run zm_T 1 (pc' := 453) (lv' := [(4, .int 0), (3, .ref 36), (2, .ref 12), (1, .ref 2), (0, .ref 0)]) (st' := []) (G' := (zg_0 xs)) rfl ?_
  refine zm_J_run zm_T 2 (pc' := 23) (lv' := [(4, .int 3), (3, .ref 36), (2, .ref 12), (1, .ref 2), (0, .ref 0)]) (st' := []) (G' := (zg_0 xs)) rfl ?_
  refine zm_J_run zm_T 5 (pc' := 29) (lv' := [(4, .int 3), (3, .ref 36), (2, .ref 12), (1, .ref 2), (0, .ref 0)]) (st' := [.int (3 - 3), .int 3]) (G' := (zg_0 xs)) rfl ?_
  refine zm_J_run zm_T 1 (pc' := if (3 - 3 : Int32) < 3 then 459 else 32) (lv' := [(4, .int 3), (3, .ref 36), (2, .ref 12), (1, .ref 2), (0, .ref 0)]) (st' := []) (G' := (zg_0 xs)) rfl ?_
  rw [if_pos (show (3 - 3 : Int32) < 3 by decide +kernel)]
  refine zm_J_run zm_T 1 (pc' := 460) (lv' := [(4, .int 3), (3, .ref 36), (2, .ref 12), (1, .ref 2), (0, .ref 0)]) (st' := [.int 1]) (G' := (zg_0 xs)) rfl ?_
  exact zm_J_fin zm_T rfl rfl ⟨rfl, Nat.le_of_ble_eq_true rfl, Nat.le_of_ble_eq_true rfl⟩
set_option maxRecDepth 100000 in
set_option maxHeartbeats 4000000 in
theorem zl_c5 {xs : Nat → Int32} (h : xs 1 = 5) (N : zm_N) (d : Nat) (hd : 12 ≤ d) : zm_J N d 0 39 [(4, .int 0), (3, .ref 36), (2, .ref 12), (1, .ref 2), (0, .ref 0)] [.int 7] (zg_0 xs) zl_Q := by
  obtain ⟨d, rfl⟩ : ∃ e, d = e + 1 := ⟨d - 1, by omega⟩
  refine zm_J_run zm_T 7 (pc' := 435) (lv' := [(4, .int 0), (3, .ref 36), (2, .ref 12), (1, .ref 2), (0, .ref 0)]) (st' := [.int (xs 1), .ref 2]) (G' := (zg_0 xs)) rfl ?_
  rw [h]
  refine zm_J_V (a := 2) (av := [.int 5]) (rest := []) (Q1 := fun z G' => z = .inl (some (.int 0)) ∧ G' = (zg_0 xs)) (zm_T.1 0 435 _ rfl).1 zc_0_435 rfl (Nat.le_of_ble_eq_true rfl) (Nat.le_of_ble_eq_true rfl) (Nat.le_of_ble_eq_true rfl) (Nat.le_of_ble_eq_true rfl) (zk5_544 N d (by omega)) ?_ ?_
  rotate_left
  · intro x G' h; exact nomatch h.1
  intro w G' hw
  obtain ⟨h1, rfl⟩ := hw
  cases Sum.inl.inj h1
  refine zm_J_run zm_T 6 (pc' := 445) (lv' := [(4, .int 0), (3, .ref 36), (2, .ref 12), (1, .ref 2), (0, .ref 0)]) (st' := [.int (xs 1), .ref 12, .int 0]) (G' := (zg_0 xs)) rfl ?_
  rw [h]
  refine zm_J_V (a := 12) (av := [.int 5]) (rest := [.int 0]) (Q1 := fun z G' => z = .inl (some (.int 0)) ∧ G' = (zg_0 xs)) (zm_T.1 0 445 _ rfl).1 zc_0_445 rfl (Nat.le_of_ble_eq_true rfl) (Nat.le_of_ble_eq_true rfl) (Nat.le_of_ble_eq_true rfl) (Nat.le_of_ble_eq_true rfl) (zl_mc 5 N d (by omega) (zl_ms5 N d (by omega))) ?_ ?_
  rotate_left
  · intro x G' h; exact nomatch h.1
  intro w G' hw
  obtain ⟨h1, rfl⟩ := hw
  cases Sum.inl.inj h1
  refine zm_J_run zm_T 1 (pc' := 453) (lv' := [(4, .int 0), (3, .ref 36), (2, .ref 12), (1, .ref 2), (0, .ref 0)]) (st' := []) (G' := (zg_0 xs)) rfl ?_
  refine zm_J_run zm_T 2 (pc' := 23) (lv' := [(4, .int 3), (3, .ref 36), (2, .ref 12), (1, .ref 2), (0, .ref 0)]) (st' := []) (G' := (zg_0 xs)) rfl ?_
  refine zm_J_run zm_T 5 (pc' := 29) (lv' := [(4, .int 3), (3, .ref 36), (2, .ref 12), (1, .ref 2), (0, .ref 0)]) (st' := [.int (3 - 3), .int 3]) (G' := (zg_0 xs)) rfl ?_
  refine zm_J_run zm_T 1 (pc' := if (3 - 3 : Int32) < 3 then 459 else 32) (lv' := [(4, .int 3), (3, .ref 36), (2, .ref 12), (1, .ref 2), (0, .ref 0)]) (st' := []) (G' := (zg_0 xs)) rfl ?_
  rw [if_pos (show (3 - 3 : Int32) < 3 by decide +kernel)]
  refine zm_J_run zm_T 1 (pc' := 460) (lv' := [(4, .int 3), (3, .ref 36), (2, .ref 12), (1, .ref 2), (0, .ref 0)]) (st' := [.int 1]) (G' := (zg_0 xs)) rfl ?_
  exact zm_J_fin zm_T rfl rfl ⟨rfl, Nat.le_of_ble_eq_true rfl, Nat.le_of_ble_eq_true rfl⟩
set_option maxRecDepth 100000 in
set_option maxHeartbeats 4000000 in
theorem zl_c6 {xs : Nat → Int32} (h : xs 1 = 6) (N : zm_N) (d : Nat) (hd : 12 ≤ d) : zm_J N d 0 39 [(4, .int 0), (3, .ref 36), (2, .ref 12), (1, .ref 2), (0, .ref 0)] [.int 7] (zg_0 xs) zl_Q := by
  obtain ⟨d, rfl⟩ : ∃ e, d = e + 1 := ⟨d - 1, by omega⟩
  refine zm_J_run zm_T 7 (pc' := 435) (lv' := [(4, .int 0), (3, .ref 36), (2, .ref 12), (1, .ref 2), (0, .ref 0)]) (st' := [.int (xs 1), .ref 2]) (G' := (zg_0 xs)) rfl ?_
  rw [h]
  refine zm_J_V (a := 2) (av := [.int 6]) (rest := []) (Q1 := fun z G' => z = .inl (some (.int 0)) ∧ G' = (zg_0 xs)) (zm_T.1 0 435 _ rfl).1 zc_0_435 rfl (Nat.le_of_ble_eq_true rfl) (Nat.le_of_ble_eq_true rfl) (Nat.le_of_ble_eq_true rfl) (Nat.le_of_ble_eq_true rfl) (zk6_545 N d (by omega)) ?_ ?_
  rotate_left
  · intro x G' h; exact nomatch h.1
  intro w G' hw
  obtain ⟨h1, rfl⟩ := hw
  cases Sum.inl.inj h1
  refine zm_J_run zm_T 6 (pc' := 445) (lv' := [(4, .int 0), (3, .ref 36), (2, .ref 12), (1, .ref 2), (0, .ref 0)]) (st' := [.int (xs 1), .ref 12, .int 0]) (G' := (zg_0 xs)) rfl ?_
  rw [h]
  refine zm_J_V (a := 12) (av := [.int 6]) (rest := [.int 0]) (Q1 := fun z G' => z = .inl (some (.int 0)) ∧ G' = (zg_0 xs)) (zm_T.1 0 445 _ rfl).1 zc_0_445 rfl (Nat.le_of_ble_eq_true rfl) (Nat.le_of_ble_eq_true rfl) (Nat.le_of_ble_eq_true rfl) (Nat.le_of_ble_eq_true rfl) (zl_mc 6 N d (by omega) (zl_ms6 N d (by omega))) ?_ ?_
  rotate_left
  · intro x G' h; exact nomatch h.1
  intro w G' hw
  obtain ⟨h1, rfl⟩ := hw
  cases Sum.inl.inj h1
  refine zm_J_run zm_T 1 (pc' := 453) (lv' := [(4, .int 0), (3, .ref 36), (2, .ref 12), (1, .ref 2), (0, .ref 0)]) (st' := []) (G' := (zg_0 xs)) rfl ?_
  refine zm_J_run zm_T 2 (pc' := 23) (lv' := [(4, .int 3), (3, .ref 36), (2, .ref 12), (1, .ref 2), (0, .ref 0)]) (st' := []) (G' := (zg_0 xs)) rfl ?_
  refine zm_J_run zm_T 5 (pc' := 29) (lv' := [(4, .int 3), (3, .ref 36), (2, .ref 12), (1, .ref 2), (0, .ref 0)]) (st' := [.int (3 - 3), .int 3]) (G' := (zg_0 xs)) rfl ?_
  refine zm_J_run zm_T 1 (pc' := if (3 - 3 : Int32) < 3 then 459 else 32) (lv' := [(4, .int 3), (3, .ref 36), (2, .ref 12), (1, .ref 2), (0, .ref 0)]) (st' := []) (G' := (zg_0 xs)) rfl ?_
  rw [if_pos (show (3 - 3 : Int32) < 3 by decide +kernel)]
  refine zm_J_run zm_T 1 (pc' := 460) (lv' := [(4, .int 3), (3, .ref 36), (2, .ref 12), (1, .ref 2), (0, .ref 0)]) (st' := [.int 1]) (G' := (zg_0 xs)) rfl ?_
  exact zm_J_fin zm_T rfl rfl ⟨rfl, Nat.le_of_ble_eq_true rfl, Nat.le_of_ble_eq_true rfl⟩
set_option maxRecDepth 100000 in
set_option maxHeartbeats 4000000 in
theorem zl_c7 {xs : Nat → Int32} (h : xs 1 = 7) (N : zm_N) (d : Nat) (hd : 12 ≤ d) : zm_J N d 0 39 [(4, .int 0), (3, .ref 36), (2, .ref 12), (1, .ref 2), (0, .ref 0)] [.int 7] (zg_0 xs) zl_Q := by
  obtain ⟨d, rfl⟩ : ∃ e, d = e + 1 := ⟨d - 1, by omega⟩
  refine zm_J_run zm_T 7 (pc' := 435) (lv' := [(4, .int 0), (3, .ref 36), (2, .ref 12), (1, .ref 2), (0, .ref 0)]) (st' := [.int (xs 1), .ref 2]) (G' := (zg_0 xs)) rfl ?_
  rw [h]
  refine zm_J_V (a := 2) (av := [.int 7]) (rest := []) (Q1 := fun z G' => z = .inl (some (.int 0)) ∧ G' = (zg_0 xs)) (zm_T.1 0 435 _ rfl).1 zc_0_435 rfl (Nat.le_of_ble_eq_true rfl) (Nat.le_of_ble_eq_true rfl) (Nat.le_of_ble_eq_true rfl) (Nat.le_of_ble_eq_true rfl) (zk7_546 N d (by omega)) ?_ ?_
  rotate_left
  · intro x G' h; exact nomatch h.1
  intro w G' hw
  obtain ⟨h1, rfl⟩ := hw
  cases Sum.inl.inj h1
  refine zm_J_run zm_T 6 (pc' := 445) (lv' := [(4, .int 0), (3, .ref 36), (2, .ref 12), (1, .ref 2), (0, .ref 0)]) (st' := [.int (xs 1), .ref 12, .int 0]) (G' := (zg_0 xs)) rfl ?_
  rw [h]
  refine zm_J_V (a := 12) (av := [.int 7]) (rest := [.int 0]) (Q1 := fun z G' => z = .inl (some (.int 0)) ∧ G' = (zg_0 xs)) (zm_T.1 0 445 _ rfl).1 zc_0_445 rfl (Nat.le_of_ble_eq_true rfl) (Nat.le_of_ble_eq_true rfl) (Nat.le_of_ble_eq_true rfl) (Nat.le_of_ble_eq_true rfl) (zl_mc 7 N d (by omega) (zl_ms7 N d (by omega))) ?_ ?_
  rotate_left
  · intro x G' h; exact nomatch h.1
  intro w G' hw
  obtain ⟨h1, rfl⟩ := hw
  cases Sum.inl.inj h1
  refine zm_J_run zm_T 1 (pc' := 453) (lv' := [(4, .int 0), (3, .ref 36), (2, .ref 12), (1, .ref 2), (0, .ref 0)]) (st' := []) (G' := (zg_0 xs)) rfl ?_
  refine zm_J_run zm_T 2 (pc' := 23) (lv' := [(4, .int 3), (3, .ref 36), (2, .ref 12), (1, .ref 2), (0, .ref 0)]) (st' := []) (G' := (zg_0 xs)) rfl ?_
  refine zm_J_run zm_T 5 (pc' := 29) (lv' := [(4, .int 3), (3, .ref 36), (2, .ref 12), (1, .ref 2), (0, .ref 0)]) (st' := [.int (3 - 3), .int 3]) (G' := (zg_0 xs)) rfl ?_
  refine zm_J_run zm_T 1 (pc' := if (3 - 3 : Int32) < 3 then 459 else 32) (lv' := [(4, .int 3), (3, .ref 36), (2, .ref 12), (1, .ref 2), (0, .ref 0)]) (st' := []) (G' := (zg_0 xs)) rfl ?_
  rw [if_pos (show (3 - 3 : Int32) < 3 by decide +kernel)]
  refine zm_J_run zm_T 1 (pc' := 460) (lv' := [(4, .int 3), (3, .ref 36), (2, .ref 12), (1, .ref 2), (0, .ref 0)]) (st' := [.int 1]) (G' := (zg_0 xs)) rfl ?_
  exact zm_J_fin zm_T rfl rfl ⟨rfl, Nat.le_of_ble_eq_true rfl, Nat.le_of_ble_eq_true rfl⟩

set_option maxRecDepth 100000 in
set_option maxHeartbeats 4000000 in
theorem zl_rx {xs : Nat → Int32} (N : zm_N) (d : Nat) (hd : 12 ≤ d) (h : xs 1 < 0 ∨ 5 < xs 1) : zm_J N d 0 39 [(4, .int 0), (3, .ref 36), (2, .ref 12), (1, .ref 2), (0, .ref 0)] [.int 6] (zp_H xs 0 (fun _ => 0) 0 0 (fun _ => 0) (fun _ => 0) [] 156591) zl_Q := by
  obtain ⟨d, rfl⟩ : ∃ e, d = e + 1 := ⟨d - 1, by omega⟩
  refine zm_J_run zm_T 7 (pc' := 399) (lv' := [(4, .int 0), (3, .ref 36), (2, .ref 12), (1, .ref 2), (0, .ref 0)]) (st' := [.int (xs 1), .ref 2]) (G' := zp_H xs 0 (fun _ => 0) 0 0 (fun _ => 0) (fun _ => 0) [] 156591) rfl ?_
  refine zm_J_S (av := [.ref 2, .int (xs 1)]) (rest := []) (Q1 := fun z G' => z = .inl (some (.int 1)) ∧ G' = zp_H xs 0 (fun _ => 0) 0 0 (fun _ => 0) (fun _ => 0) [.inr (10, [])] (156591 + 6)) (zm_T.1 0 399 _ rfl).1 zc_0_399 (Nat.le_of_ble_eq_true rfl) (Nat.le_of_ble_eq_true rfl) (Nat.le_of_succ_le (zp_len (by decide))) (Nat.le_of_ble_eq_true rfl) ?_ ?_ ?_
  · generalize xs 1 = v at h
    obtain ⟨d, rfl⟩ : ∃ e, d = e + 1 := ⟨d - 1, by omega⟩
    refine zm_J_run zm_T 2 (pc' := 2) (lv' := [(0, .ref 2), (1, .int v)]) (st' := [.int v, .ref 2]) (G' := zp_H xs 0 (fun _ => 0) 0 0 (fun _ => 0) (fun _ => 0) [] 156591) rfl ?_
    refine zm_J_V (a := 2) (av := [.int v]) (rest := []) (Q1 := fun z G' => z = .inr (0, 37) ∧ G' = zp_H xs 0 (fun _ => 0) 0 0 (fun _ => 0) (fun _ => 0) [.inr (10, [])] (156591 + 6)) (zm_T.1 68 2 _ rfl).1 zc_68_2 rfl (Nat.le_of_ble_eq_true rfl) (Nat.le_of_ble_eq_true rfl) (Nat.le_of_succ_le (zp_len (by decide))) (Nat.le_of_ble_eq_true rfl) ?_ ?_ ?_
    · have hroom : zm_room (zp_H xs 0 (fun _ => 0) 0 0 (fun _ => 0) (fun _ => 0) [] 156591) 6 = true := by
        unfold zm_room
        rw [Bool.and_eq_true, decide_eq_true_eq, decide_eq_true_eq]
        exact ⟨zp_len (by decide), Nat.le_of_ble_eq_true rfl⟩
      refine zm_J_run zm_T 2 (pc' := if v < 0 then 10 else 4) (lv' := [(0, .ref 2), (1, .int v)]) (st' := []) (G' := zp_H xs 0 (fun _ => 0) 0 0 (fun _ => 0) (fun _ => 0) [] 156591) rfl ?_
      by_cases hv : v < 0
      · rw [if_pos hv]
        exact zm_J_throw zx_69_10 (by omega) (Nat.le_of_ble_eq_true rfl) hroom ⟨rfl, rfl⟩
      · rw [if_neg hv]
        refine zm_J_run zm_T 3 (pc' := if v < 6 then 20 else 10) (lv' := [(0, .ref 2), (1, .int v)]) (st' := []) (G' := zp_H xs 0 (fun _ => 0) 0 0 (fun _ => 0) (fun _ => 0) [] 156591) rfl ?_
        rw [if_neg (zl_gt5 (h.resolve_left hv))]
        exact zm_J_throw zx_69_10 (by omega) (Nat.le_of_ble_eq_true rfl) hroom ⟨rfl, rfl⟩
    · intro w G' h; exact nomatch h.1
    · intro x G' h
      obtain ⟨h1, rfl⟩ := h
      cases Sum.inr.inj h1
      refine Or.inr ⟨8, zt_68_0, ?_⟩
      refine zm_J_run zm_T 2 (pc' := 10) (lv' := [(2, .ref 37), (0, .ref 2), (1, .int v)]) (st' := [.int 1]) (G' := zp_H xs 0 (fun _ => 0) 0 0 (fun _ => 0) (fun _ => 0) [.inr (10, [])] (156591 + 6)) rfl ?_
      exact zm_J_fin zm_T rfl rfl ⟨rfl, rfl⟩
  rotate_left
  · intro x G' h; exact nomatch h.1
  intro w G' hw
  obtain ⟨h1, rfl⟩ := hw
  cases Sum.inl.inj h1
  refine zm_J_run zm_T 7 (pc' := 411) (lv' := (5, .int 1) :: [(4, .int 0), (3, .ref 36), (2, .ref 12), (1, .ref 2), (0, .ref 0)]) (st' := [.int (xs 1), .ref 12]) (G' := zp_H xs 0 (fun _ => 0) 0 0 (fun _ => 0) (fun _ => 0) [.inr (10, [])] (156591 + 6)) rfl ?_
  refine zm_J_V (a := 12) (av := [.int (xs 1)]) (rest := []) (Q1 := fun z G' => z = .inl none ∧ G' = zp_H xs 0 (fun _ => 0) 1 0 (fun _ => 0) (fun _ => 0) [.inr (10, [])] (156591 + 6)) (zm_T.1 0 411 _ rfl).1 zc_0_411 rfl (Nat.le_of_ble_eq_true rfl) (Nat.le_of_ble_eq_true rfl) (Nat.le_of_succ_le (zp_len (by decide))) (Nat.le_of_ble_eq_true rfl) ?_ ?_ ?_
  · generalize xs 1 = v at h
    obtain ⟨d, rfl⟩ : ∃ e, d = e + 1 := ⟨d - 1, by omega⟩
    refine zm_J_run zm_T 4 (pc' := 4) (lv' := [(0, .ref 12), (1, .int v)]) (st' := [.int 5, .int 0, .int v, .ref 12]) (G' := zp_H xs 0 (fun _ => 0) 0 0 (fun _ => 0) (fun _ => 0) [.inr (10, [])] (156591 + 6)) rfl ?_
    refine zm_J_S (av := [.int v, .int 0, .int 5]) (rest := [.ref 12]) (Q1 := fun z G' => z = .inl (some (.int (if v < 0 ∨ 5 < v then 0 else 1))) ∧ G' = zp_H xs 0 (fun _ => 0) 0 0 (fun _ => 0) (fun _ => 0) [.inr (10, [])] (156591 + 6)) (zm_T.1 106 4 _ rfl).1 zc_106_4 (Nat.le_of_ble_eq_true rfl) (Nat.le_of_ble_eq_true rfl) (Nat.le_of_succ_le (zp_len (by decide))) (Nat.le_of_ble_eq_true rfl) (zt_between N d v 0 5 _) ?_ ?_
    rotate_left
    · intro x G' h; exact nomatch h.1
    intro w G' hw
    obtain ⟨h1, rfl⟩ := hw
    cases Sum.inl.inj h1
    show zm_J N (d + 1) 106 7 [(0, .ref 12), (1, .int v)] [.int (if v < 0 ∨ 5 < v then 0 else 1), .ref 12] (zp_H xs 0 (fun _ => 0) 0 0 (fun _ => 0) (fun _ => 0) [.inr (10, [])] (156591 + 6)) _
    rw [if_pos h]
    refine zm_J_V (a := 12) (av := [.int 0]) (rest := []) (Q1 := fun z G' => z = .inl (some (.int 1)) ∧ G' = zp_H xs 0 (fun _ => 0) 1 0 (fun _ => 0) (fun _ => 0) [.inr (10, [])] (156591 + 6)) (zm_T.1 106 7 _ rfl).1 zc_106_7 rfl (Nat.le_of_ble_eq_true rfl) (Nat.le_of_ble_eq_true rfl) (Nat.le_of_succ_le (zp_len (by decide))) (Nat.le_of_ble_eq_true rfl) ?_ ?_ ?_
    · refine zm_J_run zm_T 9 (pc' := 22) (lv' := [(0, .ref 12), (1, .int 0)]) (st' := [.int 1]) (G' := zp_H xs 0 (fun _ => 0) 1 0 (fun _ => 0) (fun _ => 0) [.inr (10, [])] (156591 + 6)) rfl ?_
      exact zm_J_fin zm_T rfl rfl ⟨rfl, rfl⟩
    · intro w G' hw
      obtain ⟨h1, rfl⟩ := hw
      cases Sum.inl.inj h1
      refine zm_J_run zm_T 1 (pc' := 13) (lv' := [(0, .ref 12), (1, .int v)]) (st' := []) (G' := zp_H xs 0 (fun _ => 0) 1 0 (fun _ => 0) (fun _ => 0) [.inr (10, [])] (156591 + 6)) rfl ?_
      exact zm_J_fin zm_T rfl rfl ⟨rfl, rfl⟩
    · intro x G' h; exact nomatch h.1
  rotate_left
  · intro x G' h; exact nomatch h.1
  intro w G' hw
  obtain ⟨h1, rfl⟩ := hw
  cases Sum.inl.inj h1
  refine zm_J_run zm_T 1 (pc' := 415) (lv' := (5, .int 1) :: [(4, .int 0), (3, .ref 36), (2, .ref 12), (1, .ref 2), (0, .ref 0)]) (st' := [.ref 12]) (G' := zp_H xs 0 (fun _ => 0) 1 0 (fun _ => 0) (fun _ => 0) [.inr (10, [])] (156591 + 6)) rfl ?_
  refine zm_J_V (a := 12) (av := []) (rest := []) (Q1 := fun z G' => z = .inl (some (.int 1)) ∧ G' = zp_H xs 0 (fun _ => 0) 1 0 (fun _ => 0) (fun _ => 0) [.inr (10, [])] (156591 + 6)) (zm_T.1 0 415 _ rfl).1 zc_0_415 rfl (Nat.le_of_ble_eq_true rfl) (Nat.le_of_ble_eq_true rfl) (Nat.le_of_succ_le (zp_len (by decide))) (Nat.le_of_ble_eq_true rfl) (zt_thrown N d) ?_ ?_
  rotate_left
  · intro x G' h; exact nomatch h.1
  intro w G' hw
  obtain ⟨h1, rfl⟩ := hw
  cases Sum.inl.inj h1
  refine zm_J_run zm_T 3 (pc' := 453) (lv' := (5, .int 1) :: [(4, .int 0), (3, .ref 36), (2, .ref 12), (1, .ref 2), (0, .ref 0)]) (st' := []) (G' := zp_H xs 0 (fun _ => 0) 1 0 (fun _ => 0) (fun _ => 0) [.inr (10, [])] (156591 + 6)) rfl ?_
  refine zm_J_run zm_T 2 (pc' := 23) (lv' := [(4, .int 3), (5, .int 1), (3, .ref 36), (2, .ref 12), (1, .ref 2), (0, .ref 0)]) (st' := []) (G' := zp_H xs 0 (fun _ => 0) 1 0 (fun _ => 0) (fun _ => 0) [.inr (10, [])] (156591 + 6)) rfl ?_
  refine zm_J_run zm_T 5 (pc' := 29) (lv' := [(4, .int 3), (5, .int 1), (3, .ref 36), (2, .ref 12), (1, .ref 2), (0, .ref 0)]) (st' := [.int (3 - 3), .int 3]) (G' := zp_H xs 0 (fun _ => 0) 1 0 (fun _ => 0) (fun _ => 0) [.inr (10, [])] (156591 + 6)) rfl ?_
  refine zm_J_run zm_T 1 (pc' := if (3 - 3 : Int32) < 3 then 459 else 32) (lv' := [(4, .int 3), (5, .int 1), (3, .ref 36), (2, .ref 12), (1, .ref 2), (0, .ref 0)]) (st' := []) (G' := zp_H xs 0 (fun _ => 0) 1 0 (fun _ => 0) (fun _ => 0) [.inr (10, [])] (156591 + 6)) rfl ?_
  rw [if_pos (show (3 - 3 : Int32) < 3 by decide +kernel)]
  refine zm_J_run zm_T 1 (pc' := 460) (lv' := [(4, .int 3), (5, .int 1), (3, .ref 36), (2, .ref 12), (1, .ref 2), (0, .ref 0)]) (st' := [.int 1]) (G' := zp_H xs 0 (fun _ => 0) 1 0 (fun _ => 0) (fun _ => 0) [.inr (10, [])] (156591 + 6)) rfl ?_
  exact zm_J_fin zm_T rfl rfl ⟨rfl, Nat.le_of_succ_le (zp_len (by decide)), Nat.le_of_ble_eq_true rfl⟩
set_option maxRecDepth 100000 in
set_option maxHeartbeats 4000000 in
theorem zl_cx {xs : Nat → Int32} (N : zm_N) (d : Nat) (hd : 12 ≤ d) (h : (xs 1).toInt < 0 ∨ 7 < (xs 1).toInt) : zm_J N d 0 39 [(4, .int 0), (3, .ref 36), (2, .ref 12), (1, .ref 2), (0, .ref 0)] [.int 7] (zp_H xs 0 (fun _ => 0) 0 0 (fun _ => 0) (fun _ => 0) [] 156591) zl_Q := by
  obtain ⟨d, rfl⟩ : ∃ e, d = e + 1 := ⟨d - 1, by omega⟩
  refine zm_J_run zm_T 7 (pc' := 435) (lv' := [(4, .int 0), (3, .ref 36), (2, .ref 12), (1, .ref 2), (0, .ref 0)]) (st' := [.int (xs 1), .ref 2]) (G' := zp_H xs 0 (fun _ => 0) 0 0 (fun _ => 0) (fun _ => 0) [] 156591) rfl ?_
  refine zm_J_V (a := 2) (av := [.int (xs 1)]) (rest := []) (Q1 := fun z G' => z = .inl (some (.int (-1))) ∧ G' = zp_H xs 0 (fun _ => 0) 0 0 (fun _ => 0) (fun _ => 0) [] 156591) (zm_T.1 0 435 _ rfl).1 zc_0_435 rfl (Nat.le_of_ble_eq_true rfl) (Nat.le_of_ble_eq_true rfl) (Nat.le_of_succ_le (zp_len (by decide))) (Nat.le_of_ble_eq_true rfl) ?_ ?_ ?_
  · generalize xs 1 = v at h
    refine zm_J_run zm_T 1 (pc' := 1) (lv' := [(0, .ref 2), (1, .int v)]) (st' := [.int v]) (G' := zp_H xs 0 (fun _ => 0) 0 0 (fun _ => 0) (fun _ => 0) [] 156591) rfl ?_
    refine zm_J_sw rfl (if_pos h) rfl ?_
    refine zm_J_run zm_T 1 (pc' := 95) (lv' := [(0, .ref 2), (1, .int v)]) (st' := [.int (-1)]) (G' := zp_H xs 0 (fun _ => 0) 0 0 (fun _ => 0) (fun _ => 0) [] 156591) rfl ?_
    exact zm_J_fin zm_T rfl rfl ⟨rfl, rfl⟩
  rotate_left
  · intro x G' h; exact nomatch h.1
  intro w G' hw
  obtain ⟨h1, rfl⟩ := hw
  cases Sum.inl.inj h1
  refine zm_J_run zm_T 6 (pc' := 445) (lv' := [(4, .int 0), (3, .ref 36), (2, .ref 12), (1, .ref 2), (0, .ref 0)]) (st' := [.int (xs 1), .ref 12, .int (-1)]) (G' := zp_H xs 0 (fun _ => 0) 0 0 (fun _ => 0) (fun _ => 0) [] 156591) rfl ?_
  refine zm_J_V (a := 12) (av := [.int (xs 1)]) (rest := [.int (-1)]) (Q1 := fun z G' => z = .inl (some (.int (-1))) ∧ G' = zp_H xs 0 (fun _ => 0) 0 0 (fun _ => 0) (fun _ => 0) [] 156591) (zm_T.1 0 445 _ rfl).1 zc_0_445 rfl (Nat.le_of_ble_eq_true rfl) (Nat.le_of_ble_eq_true rfl) (Nat.le_of_succ_le (zp_len (by decide))) (Nat.le_of_ble_eq_true rfl) ?_ ?_ ?_
  · generalize xs 1 = v at h
    refine zl_mc v N d (by omega) ?_
    refine zm_J_sw rfl (if_pos h) rfl ?_
    refine zm_J_run zm_T 1 (pc' := 118) (lv' := [(3, .int 6), (2, .int 0), (0, .ref 12), (1, .int v)]) (st' := [.int (-1)]) (G' := zp_H xs 0 (fun _ => 0) 0 0 (fun _ => 0) (fun _ => 0) [] 156591) rfl ?_
    exact zm_J_fin zm_T rfl rfl ⟨rfl, rfl⟩
  rotate_left
  · intro x G' h; exact nomatch h.1
  intro w G' hw
  obtain ⟨h1, rfl⟩ := hw
  cases Sum.inl.inj h1
  refine zm_J_run zm_T 1 (pc' := 453) (lv' := [(4, .int 0), (3, .ref 36), (2, .ref 12), (1, .ref 2), (0, .ref 0)]) (st' := []) (G' := zp_H xs 0 (fun _ => 0) 0 0 (fun _ => 0) (fun _ => 0) [] 156591) rfl ?_
  refine zm_J_run zm_T 2 (pc' := 23) (lv' := [(4, .int 3), (3, .ref 36), (2, .ref 12), (1, .ref 2), (0, .ref 0)]) (st' := []) (G' := zp_H xs 0 (fun _ => 0) 0 0 (fun _ => 0) (fun _ => 0) [] 156591) rfl ?_
  refine zm_J_run zm_T 5 (pc' := 29) (lv' := [(4, .int 3), (3, .ref 36), (2, .ref 12), (1, .ref 2), (0, .ref 0)]) (st' := [.int (3 - 3), .int 3]) (G' := zp_H xs 0 (fun _ => 0) 0 0 (fun _ => 0) (fun _ => 0) [] 156591) rfl ?_
  refine zm_J_run zm_T 1 (pc' := if (3 - 3 : Int32) < 3 then 459 else 32) (lv' := [(4, .int 3), (3, .ref 36), (2, .ref 12), (1, .ref 2), (0, .ref 0)]) (st' := []) (G' := zp_H xs 0 (fun _ => 0) 0 0 (fun _ => 0) (fun _ => 0) [] 156591) rfl ?_
  rw [if_pos (show (3 - 3 : Int32) < 3 by decide +kernel)]
  refine zm_J_run zm_T 1 (pc' := 460) (lv' := [(4, .int 3), (3, .ref 36), (2, .ref 12), (1, .ref 2), (0, .ref 0)]) (st' := [.int 1]) (G' := zp_H xs 0 (fun _ => 0) 0 0 (fun _ => 0) (fun _ => 0) [] 156591) rfl ?_
  exact zm_J_fin zm_T rfl rfl ⟨rfl, Nat.le_of_succ_le (zp_len (by decide)), Nat.le_of_ble_eq_true rfl⟩
theorem zl_mono {N : zm_N} {d pc : Nat} {lv : zm_L} {st : List Value} {G G2 : zm_H} (hl : G2.1.length ≤ zm_C) (hs : G2.2 ≤ zm_S) (k : zm_J N d 0 pc lv st G (fun z G => z = .inl (some (.int 1)) ∧ G = G2)) : zm_J N d 0 pc lv st G zl_Q := k.mono (fun z G h => ⟨h.1, by rw [h.2]; exact hl, by rw [h.2]; exact hs⟩)
set_option maxRecDepth 100000 in
set_option maxHeartbeats 4000000 in
/-- one call on fresh objects -/
theorem zl_one {xs : Nat → Int32} (N : zm_N) (d : Nat) (hd : 20 ≤ d) : zm_J N d 0 39 [(4, .int 0), (3, .ref 36), (2, .ref 12), (1, .ref 2), (0, .ref 0)] [.int (xs 0 &&& 7)] (zp_H xs 0 (fun _ => 0) 0 0 (fun _ => 0) (fun _ => 0) [] 156591) zl_Q := by
  obtain ⟨j, hj, e⟩ := pk_andE (xs 0) (m := 7) 3 (by decide +kernel)
  rw [e]
  match j, hj with
  | 0, _ => exact zl_op0 N d (by omega)
  | 1, _ => exact zl_mono (Nat.le_of_ble_eq_true rfl) (Nat.le_of_ble_eq_true rfl) (zl_op1 N d (by omega))
  | 2, _ => exact zl_mono (Nat.le_of_ble_eq_true rfl) (Nat.le_of_ble_eq_true rfl) (zl_op2 N d (by omega))
  | 3, _ => exact zl_mono (Nat.le_of_ble_eq_true rfl) (Nat.le_of_ble_eq_true rfl) (zl_op3 N d (by omega))
  | 4, _ => exact zl_mono (Nat.le_of_ble_eq_true rfl) (Nat.le_of_ble_eq_true rfl) (zl_op4 N d (by omega))
  | 5, _ => exact zl_mono (Nat.le_of_ble_eq_true rfl) (Nat.le_of_ble_eq_true rfl) (zl_op5 N d (by omega))
  | 6, _ =>
    rcases pk_ix (xs 1) (n := 6) (by decide) with h | h | ⟨i, hi, h⟩
    · exact zl_rx N d (by omega) (Or.inl h)
    · exact zl_rx N d (by omega) (Or.inr (zl_ge6 h))
    · match i, hi, h with
      | 0, _, h => exact zl_mono (Nat.le_of_ble_eq_true rfl) (Nat.le_of_ble_eq_true rfl) (zl_r0 h N d (by omega))
      | 1, _, h => exact zl_mono (Nat.le_of_ble_eq_true rfl) (Nat.le_of_ble_eq_true rfl) (zl_r1 h N d (by omega))
      | 2, _, h => exact zl_mono (Nat.le_of_ble_eq_true rfl) (Nat.le_of_ble_eq_true rfl) (zl_r2 h N d (by omega))
      | 3, _, h => exact zl_mono (Nat.le_of_ble_eq_true rfl) (Nat.le_of_ble_eq_true rfl) (zl_r3 h N d (by omega))
      | 4, _, h => exact zl_mono (Nat.le_of_ble_eq_true rfl) (Nat.le_of_ble_eq_true rfl) (zl_r4 h N d (by omega))
      | 5, _, h => exact zl_mono (Nat.le_of_ble_eq_true rfl) (Nat.le_of_ble_eq_true rfl) (zl_r5 h N d (by omega))
  | 7, _ =>
    rcases pk_ix (xs 1) (n := 8) (by decide) with h | h | ⟨i, hi, h⟩
    · exact zl_cx N d (by omega) (Or.inl (zl_lt h))
    · exact zl_cx N d (by omega) (Or.inr (zl_ge8 h))
    · match i, hi, h with
      | 0, _, h => exact zl_c0 h N d (by omega)
      | 1, _, h => exact zl_c1 h N d (by omega)
      | 2, _, h => exact zl_c2 h N d (by omega)
      | 3, _, h => exact zl_c3 h N d (by omega)
      | 4, _, h => exact zl_c4 h N d (by omega)
      | 5, _, h => exact zl_c5 h N d (by omega)
      | 6, _, h => exact zl_c6 h N d (by omega)
      | 7, _, h => exact zl_c7 h N d (by omega)
set_option maxRecDepth 100000 in
set_option maxHeartbeats 4000000 in
/-- the law, on scripts of at most 3 ints -/
theorem zl_law {L : Nat} {xs : Nat → Int32} (N : zm_N) (d : Nat) (hd : 20 ≤ d) (hL : L ≤ 3) : zm_J N d 0 0 [(0, .ref 0)] [] (zm_G0h L xs) zl_Q := by
  refine zl_pre N d (by omega) ?_
  match L, hL with
  | 0, _ => exact zl_mono (Nat.le_of_ble_eq_true rfl) (Nat.le_of_ble_eq_true rfl) (zl_ex0 N d (by omega))
  | 1, _ => exact zl_mono (Nat.le_of_ble_eq_true rfl) (Nat.le_of_ble_eq_true rfl) (zl_ex1 N d (by omega))
  | 2, _ => exact zl_mono (Nat.le_of_ble_eq_true rfl) (Nat.le_of_ble_eq_true rfl) (zl_ex2 N d (by omega))
  | 3, _ =>
    refine zl_in N d (by omega) ?_
    refine zm_J_run zm_T 2 (pc' := 39) (lv' := [(4, .int 0), (3, .ref 36), (2, .ref 12), (1, .ref 2), (0, .ref 0)]) (st' := [.int (xs 0 &&& 7)]) (G' := zp_H xs 0 (fun _ => 0) 0 0 (fun _ => 0) (fun _ => 0) [] 156591) rfl ?_
    exact zl_one N d hd
end
section
/-! THE CLAIM OUT OF ONE WALK OF THE LAW'S BODY. Your part is whole_start (and what it stands on); all else here is the same for every law, but numbers. -/
def R_law : String := "NeedMachineLaw"
def lw_P (b : Addr) (xs : List Int32) (args : Array Value) (s : State) : Prop := args = #[.ref b] ∧ s.IntsAt b xs ∧ xs.length ≤ 3 ∧ (Jvm.Cond.and given_1 narrow_1).before args s = true
def lw_Q (_ : Array Value) (s : State) (o : Outcome) (t : State) : Prop := o = .returned (some (.int 1)) ∧ Framed s o t [] 600002 7302232
def lw_Z (below : List Frame) (a : Array Value) (s : State) : State → Prop := fun t => ∃ o, t.status = .running ∧ Ended t below o ∧ lw_Q a s o t
/-- the law's own end, with 1 on the stack, nothing written that was there before, its room as the claim has it -/
theorem lw_ret {p : Program} {l : Launch} {e : Env} {s : State} {m : MethodId} {below : List Frame} {meth : Method} {c : Code} {b : Nat} (hx : p.tables.exec = Jvm.exec) (hb : c.code = code) (hr : meth.sig.returnType = ret) (hlocks : meth.locks = false) {pc : Nat} {H : Heap} {ls : Array Slot} (hdg : decode code pc = .ok (.ireturn, 1)) : W p l e room_1 s m #[Value.ref b] below meth c H [] 600002 7302232 (lw_Z below #[Value.ref b] s) (F0 m pc ls [.int 1]) := by
  intro T hT X
  obtain ⟨fs, hret, hrun, hended, hW, hframe⟩ := X.leave (v := some (.int 1)) (hlocks := hlocks) (fun h => by rw [hr] at h; cases h)
  have hmeth' : T.vm.method? m = some meth := X.method'
  refine ⟨T.setFrames fs, ?_, .returned (some (.int 1)), hrun, hended, rfl, ⟨_, rfl⟩, hW, hframe⟩
  jvm_step X.here [X.here.top, hx, hb, hdg, hmeth', hr, ret, narrow_b1]
  (try refine ⟨rfl, ?_⟩); (try refine ⟨rfl, ?_⟩)
  first | (intro acts; rw [hret _ acts rfl rfl rfl]) | rw [hret _ _ rfl rfl rfl]
  exact Steps.refl _
/-- what holds at the law's entry: the machine, the code, the tables' words (any of lw_tbl by 'hts w (by decide +kernel)'), the script of L ints xs at the cell b, what the Statement gives of the start (any of its parts by flat_of_before) -/
def lw_At (p : Program) (s : State) (m : MethodId) (meth : Method) (c : Code) (b L : Nat) (xs : Nat → Int32) : Prop :=
  p.tables.exec = Jvm.exec ∧ c.code = code ∧ meth.sig.returnType = ret ∧ c.maxLocals = 7 ∧ s.vm.findClass R_law = some m.cls ∧ (∀ w ∈ lw_tbl, w.before #[Value.ref b] s = true) ∧ va_X b L xs s s.heap ∧ b < s.heap.size ∧ meth.locks = false ∧ (Jvm.Cond.and given_1 narrow_1).before #[Value.ref b] s = true
/-- the walk: from the entry, for every script of at most 3 ints, the law comes to its end with true -/
theorem whole_start {p : Program} {e : Env} {s : State} {m : MethodId} {below : List Frame} {meth : Method} {c : Code} (l : Launch) (hlt : l.stackTraces = false) {b L : Nat} {xs : Nat → Int32} (hL : L ≤ 3) (C0 : lw_At p s m meth c b L xs) (hn : s.methodNamed? x = some m) (hcw : (Jvm.Cond.code x code maxLocals ret).before #[Value.ref b] s = true) : W p l e room_1 s m #[Value.ref b] below meth c s.heap [] 0 0 (lw_Z below #[Value.ref b] s) (entryFrame m ([Value.ref b] : List Value).toArray 7) := by
  obtain ⟨hx, hb, hr, hml, hown, hts, hX, hbl, hlocks, hgv⟩ := C0
  obtain ⟨N, hNl, hNs, hN0, hR⟩ := zm_start l hlt hts hX hbl hgv
  subst hNl
  subst hNs
  subst hN0
  intro T hT X
  obtain ⟨meth', c', g1, g2, g3, g4, g5, g6, g7, g8⟩ := Cond.code_spec hn hcw
  cases Option.some.inj (g1.symm.trans X.method)
  cases Option.some.inj (g2.symm.trans X.code)
  have hexc : c.exceptionTable = #[] := by simpa using g7
  have hC : zm_Cx N 2048 0 p room_1 N.s0 m meth c 0 := by
    refine ⟨hx, hb, hml, hown, State.WarmedH.refl _, hlocks, hr, (name_of_methodNamed hn X.method).1, by rw [hexc]; rfl, Nat.le_of_ble_eq_true rfl, Nat.le_of_ble_eq_true rfl, ?_, Nat.le_of_ble_eq_true rfl⟩
    have hz : N.b = N.s0.heap.size := rfl
    show N.b + zm_C ≤ N.s0.heap.size + 600002 + 2
    rw [hz, Nat.add_assoc]
    exact Nat.add_le_add_left (Nat.le_of_ble_eq_true rfl) _
  have hl := lv_entry [Value.ref (N.ad 0)] (n := 7) (Nat.le_of_ble_eq_true rfl)
  have hJ := zl_law (L := L) (xs := xs) N 2048 (by decide) hL p e room_1 N.s0 m #[Value.ref (N.ad 0)] below meth c 0 hC N.s0.heap [] _ 0 0 hR hl (fun q h => by cases h) rfl rfl
  rw [lg_entry_eq]
  refine zm_Wmono ?_ hJ T hT X
  intro t ht
  obtain ⟨z, G, o, Ls, ce, sl, h1, h2, h3, ⟨h4, h5, h6⟩, h7, h8, h9, h10, h11, h12⟩ := ht
  subst h4
  have ho : o = .returned (some (.int 1)) := h3
  refine ⟨o, h1, h2, ho, ⟨_, ho⟩, h8, h9.weaken (fun y hy hlt => absurd (h10 y hy) (Nat.not_le.mpr hlt)) ?_ ?_⟩
  · have hz := h7.1
    have h5' : G.1.length ≤ 600004 := h5
    have hz' : t.heap.size + 2 = N.s0.heap.size + G.1.length := hz
    omega
  · have h6' : G.2 ≤ 7302232 := h6
    omega
set_option maxHeartbeats 4000000 in
theorem lw_walk (l : Launch) (hlt : l.stackTraces = false) (b : Addr) (xs : List Int32) : MetFree l x (headSpec (Jvm.Cond.code x code maxLocals ret :: tables_1) room_1) (lw_P b xs) (fun _ _ _ _ _ => True) lw_Q := by
  refine MetFree.of_bodyS (code := code) (maxLocals := maxLocals) (ret := ret) (by decide) ?_ ?_
  · intro args s m h hn
    obtain ⟨meth, c, h1, h2, h3, h4, h5, h6, -, -⟩ := Cond.code_spec hn (atoms_spec (ws := Jvm.Cond.code x code maxLocals ret :: tables_1) h _ List.mem_cons_self)
    exact ⟨meth, c, h1, h2, h3, h4, h5, h6⟩
  · intro p e s m args below meth c s₁ B hml0 hP _
    obtain ⟨rfl, hx, hbd, hgv⟩ := hP
    obtain ⟨scr, harrAt, hlist, hof, hsmall⟩ := hx
    obtain ⟨hcb, hkn, -, -⟩ := State.arrayAt?_spec harrAt
    have hown : s.vm.findClass R_law = some m.cls := findClass_of_methodNamed B.named
    have hts0 : ∀ c ∈ (Jvm.Cond.code x code maxLocals ret :: tables_1), c.before #[Value.ref b] s = true := atoms_spec (ws := Jvm.Cond.code x code maxLocals ret :: tables_1) B.pre
    have hts : ∀ w ∈ lw_tbl, w.before #[Value.ref b] s = true := k2_hts_sels lw_privs (fun w hw => hts0 w (List.mem_cons_of_mem _ hw)) lw_privs_ok
    have hml : c.maxLocals = 7 := B.maxLocals_eq (hts0 _ List.mem_cons_self)
    have X₀ : Stand p l e room_1 s m #[Value.ref b] below meth c s₁ [] 0 0 := Stand.of_body B
    have hh0 : s₁.heap = s.heap := by rw [B.state]; rfl
    have hsz : scr.slots.size = xs.length := by rw [← Array.length_toList, hlist, List.length_map]
    have hval : ∀ j : Nat, j < xs.length → scr.slots[j]? = some (.int (xs.getD j 0)) := fun j hj => by
      rw [← Array.getElem?_toList, hlist]
      simp [hj]
    have hbl : b < s.heap.size := (Array.getElem?_eq_some_iff.mp hcb).1
    have hX : va_X b xs.length (fun j => xs.getD j 0) s s.heap := ⟨scr, hcb, hof, hkn, hsz, hval⟩
    have K : W p l e room_1 s m #[Value.ref b] below meth c s₁.heap [] 0 0 (lw_Z below #[Value.ref b] s) (entryFrame m ([Value.ref b] : List Value).toArray 7) := by
      rw [hh0]
      exact whole_start l hlt hbd ⟨B.exec, B.bytes, B.returns, hml, hown, hts, hX, hbl, B.notSynchronized, hgv⟩ B.named (hts0 _ List.mem_cons_self)
    obtain ⟨t, a1, o, b1, b2, b3⟩ := K s₁ rfl X₀
    exact ⟨t, o, a1, b1, b2, b3⟩
theorem lw_pre_spec {args : Array Value} {s : State} (h : (Jvm.Cond.and given_1 narrow_1).before args s = true) (hr : rest_1_c.before args s = true) : ∃ (b : Addr) (xs : List Int32), lw_P b xs args s := by
  have hs := flat_of_before _ h
  have hq := flat_of_before _ hr
  have hc : (Cond.count 1).before args s = true := hs _ (by decide +kernel)
  have harr : (Cond.arrayOf (.arg 0) .int).before args s = true := hs _ (by decide +kernel)
  have hle : (Cond.le (.length (.arg 0)) (.int 3)).before args s = true := hs _ (by decide +kernel)
  have hlen : (Cond.isInt (.length (.arg 0))).before args s = true := hq _ (by decide +kernel)
  have hall : (Cond.all (.arg 0) (.isInt (.elem (.arg 0) (.index 0)))).before args s = true := hq _ (by decide +kernel)
  obtain ⟨b, xs, hb, hx⟩ := State.ints_of_pre rfl harr hlen hall
  have hsm : xs.length < 2 ^ 31 := hx.choose_spec.2.2.2
  have hev : (Term.length (.arg 0)).eval args s none [] s = some (.int xs.length.toInt32) := hx.length_eval hb
  have hv := Cond.le_ints hev (show (Term.int 3).eval args s none [] s = some (.int 3) from rfl)
  have hd : xs.length.toInt32 ≤ 3 := by
    simpa [Cond.before, Cond.holds, hv] using hle
  have hN : xs.length ≤ 3 := (Int32.ofNat_le_ofNat hsm (by decide)).mp (show Int32.ofNat xs.length ≤ Int32.ofNat 3 from hd)
  exact ⟨b, xs, Cond.one_arg hc (show args[0]? = some (.ref b) from hb), hx, hN, h⟩
theorem lw_comes (l : Launch) (hlt : l.stackTraces = false) : Comes l x (Jvm.Cond.code x code maxLocals ret :: tables_1) room_1 (fun tb e args s => Calls_1 tb e args s ∧ rest_1 tb e args s ∧ Pre_1 tb e args s)
    (fun _ _ args s o t => lw_Q args s o t) := by
  intro p e ha hc hk s m args below hf hfit hheap happ hpre
  obtain ⟨b, xs, hP⟩ := lw_pre_spec hpre.2.2 hpre.2.1
  obtain ⟨k, o, h1, h2, h3, hQ⟩ := lw_walk l hlt b xs p e ha hc hk s m args below hf ((Spec.applies_iff_loose hf).mp happ).1 hP trivial
  exact ⟨k, o, h1, h2, h3, hQ⟩
theorem lw_frame {s t : State} {o : Outcome} {args : Array Value} (h : Framed s o t [] 600002 7302232) :
    Framed s o t (fieldLocs frame_1_writes args s ++ arrayLocs frame_1_arrays args s ++ staticLocs frame_1_statics s) 600002 7302232 := h
theorem lw_limb (L : Cond) (hL : ∀ (args : Array Value) (s t : State), L.after args s (.returned (some (.int 1))) t = true) :
    ArmFor flags0 classFile x code maxLocals ret World_1 tables_1 room_1 Calls_1 rest_1 Pre_1
      (fun tb e a s o t => postC L tb e a s o t ∧ Framed s o t (fieldLocs frame_1_writes a s ++ arrayLocs frame_1_arrays a s ++ staticLocs frame_1_statics s) 600002 7302232) := by
  intro l hfl _ _ p e ha hc hk s m args below hf hfit hheap happ hpre
  have hlt : l.stackTraces = false := by unfold Launch.stackTraces; rw [hfl]; decide +kernel
  obtain ⟨k, o, h1, h2, h3, rfl, hF⟩ := lw_comes l hlt p e ha hc hk s m args below hf hfit hheap happ hpre
  exact ⟨k, _, h1, h2, h3, hL args s _, lw_frame hF⟩
theorem i_vc : Claimed_1_1 ∧ Claimed_1_2 := ⟨lw_limb limb_1_1 (fun args s t => by simp [limb_1_1, Cond.after, Cond.holds, Cond.value]), lw_limb limb_1_2 (fun args s t => Cond.after_iff.mpr (by
  first | (rw [show limb_1_2 = Cond.eq .result (.int 1) from rfl, Cond.eq_ints (x := 1) (y := 1) rfl rfl]; simp; done) | (simp [limb_1_2, Cond.value, Term.eval]; done)))⟩
end
