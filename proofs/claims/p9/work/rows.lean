section
/-- a private method of a class that the tables say can be made, by its rows of tables_1 -/
def lw_okq (q : MethodName × Nat) : Prop := (q.1.cls ≠ "java/lang/invoke/MethodHandle" ∧ q.1.cls ≠ "java/lang/invoke/VarHandle") ∧ Cond.instantiable q.1.cls q.2 ∈ tables_1 ∧ Cond.privateMethod q.1 ∈ tables_1 ∧ Cond.instanceMethod q.1 ∈ tables_1
theorem lw_p0 : lw_okq (⟨"NeedMachine", "countDefinitions", "()I"⟩, 9) := ⟨⟨by decide +kernel, by decide +kernel⟩, List.mem_of_getElem? (i := 28) (by decide +kernel), List.mem_of_getElem? (i := 186) (by decide +kernel), List.mem_of_getElem? (i := 187) (by decide +kernel)⟩
theorem lw_p1 : lw_okq (⟨"java/lang/Throwable", "fillInStackTrace", "(I)Ljava/lang/Throwable;"⟩, 6) := ⟨⟨by decide +kernel, by decide +kernel⟩, List.mem_of_getElem? (i := 246) (by decide +kernel), List.mem_of_getElem? (i := 244) (by decide +kernel), List.mem_of_getElem? (i := 245) (by decide +kernel)⟩
theorem lw_p2 : lw_okq (⟨"NeedMachine$Text", "beginReading", "()V"⟩, 8) := ⟨⟨by decide +kernel, by decide +kernel⟩, List.mem_of_getElem? (i := 36) (by decide +kernel), List.mem_of_getElem? (i := 303) (by decide +kernel), List.mem_of_getElem? (i := 304) (by decide +kernel)⟩
theorem lw_p3 : lw_okq (⟨"NeedMachine$Text", "refuseUnless", "(Z)V"⟩, 8) := ⟨⟨by decide +kernel, by decide +kernel⟩, List.mem_of_getElem? (i := 36) (by decide +kernel), List.mem_of_getElem? (i := 310) (by decide +kernel), List.mem_of_getElem? (i := 311) (by decide +kernel)⟩
theorem lw_p4 : lw_okq (⟨"NeedMachine$Text", "readParameters", "()V"⟩, 8) := ⟨⟨by decide +kernel, by decide +kernel⟩, List.mem_of_getElem? (i := 36) (by decide +kernel), List.mem_of_getElem? (i := 315) (by decide +kernel), List.mem_of_getElem? (i := 316) (by decide +kernel)⟩
theorem lw_p5 : lw_okq (⟨"NeedMachine$Text", "isNewParameter", "(C)Z"⟩, 8) := ⟨⟨by decide +kernel, by decide +kernel⟩, List.mem_of_getElem? (i := 36) (by decide +kernel), List.mem_of_getElem? (i := 319) (by decide +kernel), List.mem_of_getElem? (i := 320) (by decide +kernel)⟩
theorem lw_p6 : lw_okq (⟨"NeedMachine$Text", "parameterIndex", "(C)I"⟩, 8) := ⟨⟨by decide +kernel, by decide +kernel⟩, List.mem_of_getElem? (i := 36) (by decide +kernel), List.mem_of_getElem? (i := 323) (by decide +kernel), List.mem_of_getElem? (i := 324) (by decide +kernel)⟩
theorem lw_p7 : lw_okq (⟨"NeedMachine$Text", "readToTheEnd", "()LNeedMachine$Expression;"⟩, 8) := ⟨⟨by decide +kernel, by decide +kernel⟩, List.mem_of_getElem? (i := 36) (by decide +kernel), List.mem_of_getElem? (i := 329) (by decide +kernel), List.mem_of_getElem? (i := 330) (by decide +kernel)⟩
theorem lw_p8 : lw_okq (⟨"NeedMachine$Text", "readExpression", "(I)LNeedMachine$Expression;"⟩, 8) := ⟨⟨by decide +kernel, by decide +kernel⟩, List.mem_of_getElem? (i := 36) (by decide +kernel), List.mem_of_getElem? (i := 333) (by decide +kernel), List.mem_of_getElem? (i := 334) (by decide +kernel)⟩
theorem lw_p9 : lw_okq (⟨"NeedMachine$Text", "canStand", "(CI)Z"⟩, 8) := ⟨⟨by decide +kernel, by decide +kernel⟩, List.mem_of_getElem? (i := 36) (by decide +kernel), List.mem_of_getElem? (i := 337) (by decide +kernel), List.mem_of_getElem? (i := 338) (by decide +kernel)⟩
theorem lw_p10 : lw_okq (⟨"NeedMachine$Text", "isLeaf", "(C)Z"⟩, 8) := ⟨⟨by decide +kernel, by decide +kernel⟩, List.mem_of_getElem? (i := 36) (by decide +kernel), List.mem_of_getElem? (i := 344) (by decide +kernel), List.mem_of_getElem? (i := 345) (by decide +kernel)⟩
theorem lw_p11 : lw_okq (⟨"NeedMachine$Text", "readLeaf", "(C)LNeedMachine$Expression;"⟩, 8) := ⟨⟨by decide +kernel, by decide +kernel⟩, List.mem_of_getElem? (i := 36) (by decide +kernel), List.mem_of_getElem? (i := 351) (by decide +kernel), List.mem_of_getElem? (i := 352) (by decide +kernel)⟩
theorem lw_p12 : lw_okq (⟨"NeedMachine", "work", "(LNeedMachine$Expression;LNeedMachine$Arguments;I)LNeedMachine$Value;"⟩, 9) := ⟨⟨by decide +kernel, by decide +kernel⟩, List.mem_of_getElem? (i := 28) (by decide +kernel), List.mem_of_getElem? (i := 417) (by decide +kernel), List.mem_of_getElem? (i := 418) (by decide +kernel)⟩
theorem lw_p13 : lw_okq (⟨"NeedMachine$Store", "nextValue", "(I)LNeedMachine$Value;"⟩, 7) := ⟨⟨by decide +kernel, by decide +kernel⟩, List.mem_of_getElem? (i := 70) (by decide +kernel), List.mem_of_getElem? (i := 431) (by decide +kernel), List.mem_of_getElem? (i := 432) (by decide +kernel)⟩
theorem lw_p14 : lw_okq (⟨"java/util/ArrayList", "add", "(Ljava/lang/Object;[Ljava/lang/Object;I)V"⟩, 3) := ⟨⟨by decide +kernel, by decide +kernel⟩, List.mem_of_getElem? (i := 103) (by decide +kernel), List.mem_of_getElem? (i := 443) (by decide +kernel), List.mem_of_getElem? (i := 444) (by decide +kernel)⟩
theorem lw_p15 : lw_okq (⟨"java/util/ArrayList", "grow", "()[Ljava/lang/Object;"⟩, 3) := ⟨⟨by decide +kernel, by decide +kernel⟩, List.mem_of_getElem? (i := 103) (by decide +kernel), List.mem_of_getElem? (i := 447) (by decide +kernel), List.mem_of_getElem? (i := 448) (by decide +kernel)⟩
def lw_privs_1 : List (MethodName × Nat) := [(⟨"NeedMachine", "countDefinitions", "()I"⟩, 9), (⟨"java/lang/Throwable", "fillInStackTrace", "(I)Ljava/lang/Throwable;"⟩, 6), (⟨"NeedMachine$Text", "beginReading", "()V"⟩, 8), (⟨"NeedMachine$Text", "refuseUnless", "(Z)V"⟩, 8), (⟨"NeedMachine$Text", "readParameters", "()V"⟩, 8), (⟨"NeedMachine$Text", "isNewParameter", "(C)Z"⟩, 8), (⟨"NeedMachine$Text", "parameterIndex", "(C)I"⟩, 8), (⟨"NeedMachine$Text", "readToTheEnd", "()LNeedMachine$Expression;"⟩, 8), (⟨"NeedMachine$Text", "readExpression", "(I)LNeedMachine$Expression;"⟩, 8), (⟨"NeedMachine$Text", "canStand", "(CI)Z"⟩, 8), (⟨"NeedMachine$Text", "isLeaf", "(C)Z"⟩, 8), (⟨"NeedMachine$Text", "readLeaf", "(C)LNeedMachine$Expression;"⟩, 8), (⟨"NeedMachine", "work", "(LNeedMachine$Expression;LNeedMachine$Arguments;I)LNeedMachine$Value;"⟩, 9), (⟨"NeedMachine$Store", "nextValue", "(I)LNeedMachine$Value;"⟩, 7), (⟨"java/util/ArrayList", "add", "(Ljava/lang/Object;[Ljava/lang/Object;I)V"⟩, 3), (⟨"java/util/ArrayList", "grow", "()[Ljava/lang/Object;"⟩, 3)]
theorem lw_r1 : ∀ q ∈ lw_privs_1, lw_okq q := List.forall_mem_cons.mpr ⟨lw_p0, List.forall_mem_cons.mpr ⟨lw_p1, List.forall_mem_cons.mpr ⟨lw_p2, List.forall_mem_cons.mpr ⟨lw_p3, List.forall_mem_cons.mpr ⟨lw_p4, List.forall_mem_cons.mpr ⟨lw_p5, List.forall_mem_cons.mpr ⟨lw_p6, List.forall_mem_cons.mpr ⟨lw_p7, List.forall_mem_cons.mpr ⟨lw_p8, List.forall_mem_cons.mpr ⟨lw_p9, List.forall_mem_cons.mpr ⟨lw_p10, List.forall_mem_cons.mpr ⟨lw_p11, List.forall_mem_cons.mpr ⟨lw_p12, List.forall_mem_cons.mpr ⟨lw_p13, List.forall_mem_cons.mpr ⟨lw_p14, List.forall_mem_cons.mpr ⟨lw_p15, fun _ h => absurd h List.not_mem_nil⟩⟩⟩⟩⟩⟩⟩⟩⟩⟩⟩⟩⟩⟩⟩⟩
theorem lw_p16 : lw_okq (⟨"java/util/ArrayList", "grow", "(I)[Ljava/lang/Object;"⟩, 3) := ⟨⟨by decide +kernel, by decide +kernel⟩, List.mem_of_getElem? (i := 103) (by decide +kernel), List.mem_of_getElem? (i := 451) (by decide +kernel), List.mem_of_getElem? (i := 452) (by decide +kernel)⟩
theorem lw_p17 : lw_okq (⟨"NeedMachine", "force", "(LNeedMachine$Closure;I)LNeedMachine$Value;"⟩, 9) := ⟨⟨by decide +kernel, by decide +kernel⟩, List.mem_of_getElem? (i := 28) (by decide +kernel), List.mem_of_getElem? (i := 517) (by decide +kernel), List.mem_of_getElem? (i := 518) (by decide +kernel)⟩
theorem lw_p18 : lw_okq (⟨"NeedMachine", "workName", "(II)LNeedMachine$Value;"⟩, 9) := ⟨⟨by decide +kernel, by decide +kernel⟩, List.mem_of_getElem? (i := 28) (by decide +kernel), List.mem_of_getElem? (i := 525) (by decide +kernel), List.mem_of_getElem? (i := 526) (by decide +kernel)⟩
theorem lw_p19 : lw_okq (⟨"NeedMachine", "definitionOf", "(I)LNeedMachine$Definition;"⟩, 9) := ⟨⟨by decide +kernel, by decide +kernel⟩, List.mem_of_getElem? (i := 28) (by decide +kernel), List.mem_of_getElem? (i := 529) (by decide +kernel), List.mem_of_getElem? (i := 530) (by decide +kernel)⟩
theorem lw_p20 : lw_okq (⟨"NeedMachine", "call", "(LNeedMachine$Definition;LNeedMachine$Arguments;I)LNeedMachine$Value;"⟩, 9) := ⟨⟨by decide +kernel, by decide +kernel⟩, List.mem_of_getElem? (i := 28) (by decide +kernel), List.mem_of_getElem? (i := 549) (by decide +kernel), List.mem_of_getElem? (i := 550) (by decide +kernel)⟩
theorem lw_p21 : lw_okq (⟨"NeedMachine", "closureOf", "(LNeedMachine$Expression;LNeedMachine$Arguments;)LNeedMachine$Closure;"⟩, 9) := ⟨⟨by decide +kernel, by decide +kernel⟩, List.mem_of_getElem? (i := 28) (by decide +kernel), List.mem_of_getElem? (i := 558) (by decide +kernel), List.mem_of_getElem? (i := 559) (by decide +kernel)⟩
theorem lw_p22 : lw_okq (⟨"NeedMachine", "apply", "(LNeedMachine$Expression;LNeedMachine$Arguments;I)LNeedMachine$Value;"⟩, 9) := ⟨⟨by decide +kernel, by decide +kernel⟩, List.mem_of_getElem? (i := 28) (by decide +kernel), List.mem_of_getElem? (i := 593) (by decide +kernel), List.mem_of_getElem? (i := 594) (by decide +kernel)⟩
theorem lw_p23 : lw_okq (⟨"NeedMachine", "choose", "(LNeedMachine$Expression;LNeedMachine$Arguments;I)LNeedMachine$Value;"⟩, 9) := ⟨⟨by decide +kernel, by decide +kernel⟩, List.mem_of_getElem? (i := 28) (by decide +kernel), List.mem_of_getElem? (i := 645) (by decide +kernel), List.mem_of_getElem? (i := 646) (by decide +kernel)⟩
theorem lw_p24 : lw_okq (⟨"NeedMachine", "reckon", "(LNeedMachine$Expression;LNeedMachine$Arguments;I)LNeedMachine$Value;"⟩, 9) := ⟨⟨by decide +kernel, by decide +kernel⟩, List.mem_of_getElem? (i := 28) (by decide +kernel), List.mem_of_getElem? (i := 653) (by decide +kernel), List.mem_of_getElem? (i := 654) (by decide +kernel)⟩
theorem lw_p25 : lw_okq (⟨"NeedMachine", "takeResultPair", "()LNeedMachine$Value;"⟩, 9) := ⟨⟨by decide +kernel, by decide +kernel⟩, List.mem_of_getElem? (i := 28) (by decide +kernel), List.mem_of_getElem? (i := 694) (by decide +kernel), List.mem_of_getElem? (i := 695) (by decide +kernel)⟩
theorem lw_p26 : lw_okq (⟨"NeedMachineModel", "bad", "(Z)Z"⟩, 44) := ⟨⟨by decide +kernel, by decide +kernel⟩, List.mem_of_getElem? (i := 715) (by decide +kernel), List.mem_of_getElem? (i := 863) (by decide +kernel), List.mem_of_getElem? (i := 864) (by decide +kernel)⟩
theorem lw_p27 : lw_okq (⟨"NeedMachineModel", "fail", "(I)I"⟩, 44) := ⟨⟨by decide +kernel, by decide +kernel⟩, List.mem_of_getElem? (i := 715) (by decide +kernel), List.mem_of_getElem? (i := 867) (by decide +kernel), List.mem_of_getElem? (i := 868) (by decide +kernel)⟩
theorem lw_p28 : lw_okq (⟨"NeedMachineModel", "heading", "([I)I"⟩, 44) := ⟨⟨by decide +kernel, by decide +kernel⟩, List.mem_of_getElem? (i := 715) (by decide +kernel), List.mem_of_getElem? (i := 875) (by decide +kernel), List.mem_of_getElem? (i := 876) (by decide +kernel)⟩
theorem lw_p29 : lw_okq (⟨"NeedMachineModel", "look", "()I"⟩, 44) := ⟨⟨by decide +kernel, by decide +kernel⟩, List.mem_of_getElem? (i := 715) (by decide +kernel), List.mem_of_getElem? (i := 879) (by decide +kernel), List.mem_of_getElem? (i := 880) (by decide +kernel)⟩
theorem lw_p30 : lw_okq (⟨"NeedMachineModel", "read", "(I)Z"⟩, 44) := ⟨⟨by decide +kernel, by decide +kernel⟩, List.mem_of_getElem? (i := 715) (by decide +kernel), List.mem_of_getElem? (i := 883) (by decide +kernel), List.mem_of_getElem? (i := 884) (by decide +kernel)⟩
theorem lw_p31 : lw_okq (⟨"NeedMachineModel", "store", "(I)I"⟩, 44) := ⟨⟨by decide +kernel, by decide +kernel⟩, List.mem_of_getElem? (i := 715) (by decide +kernel), List.mem_of_getElem? (i := 890) (by decide +kernel), List.mem_of_getElem? (i := 891) (by decide +kernel)⟩
def lw_privs_2 : List (MethodName × Nat) := [(⟨"java/util/ArrayList", "grow", "(I)[Ljava/lang/Object;"⟩, 3), (⟨"NeedMachine", "force", "(LNeedMachine$Closure;I)LNeedMachine$Value;"⟩, 9), (⟨"NeedMachine", "workName", "(II)LNeedMachine$Value;"⟩, 9), (⟨"NeedMachine", "definitionOf", "(I)LNeedMachine$Definition;"⟩, 9), (⟨"NeedMachine", "call", "(LNeedMachine$Definition;LNeedMachine$Arguments;I)LNeedMachine$Value;"⟩, 9), (⟨"NeedMachine", "closureOf", "(LNeedMachine$Expression;LNeedMachine$Arguments;)LNeedMachine$Closure;"⟩, 9), (⟨"NeedMachine", "apply", "(LNeedMachine$Expression;LNeedMachine$Arguments;I)LNeedMachine$Value;"⟩, 9), (⟨"NeedMachine", "choose", "(LNeedMachine$Expression;LNeedMachine$Arguments;I)LNeedMachine$Value;"⟩, 9), (⟨"NeedMachine", "reckon", "(LNeedMachine$Expression;LNeedMachine$Arguments;I)LNeedMachine$Value;"⟩, 9), (⟨"NeedMachine", "takeResultPair", "()LNeedMachine$Value;"⟩, 9), (⟨"NeedMachineModel", "bad", "(Z)Z"⟩, 44), (⟨"NeedMachineModel", "fail", "(I)I"⟩, 44), (⟨"NeedMachineModel", "heading", "([I)I"⟩, 44), (⟨"NeedMachineModel", "look", "()I"⟩, 44), (⟨"NeedMachineModel", "read", "(I)Z"⟩, 44), (⟨"NeedMachineModel", "store", "(I)I"⟩, 44)]
theorem lw_r2 : ∀ q ∈ lw_privs_2, lw_okq q := List.forall_mem_cons.mpr ⟨lw_p16, List.forall_mem_cons.mpr ⟨lw_p17, List.forall_mem_cons.mpr ⟨lw_p18, List.forall_mem_cons.mpr ⟨lw_p19, List.forall_mem_cons.mpr ⟨lw_p20, List.forall_mem_cons.mpr ⟨lw_p21, List.forall_mem_cons.mpr ⟨lw_p22, List.forall_mem_cons.mpr ⟨lw_p23, List.forall_mem_cons.mpr ⟨lw_p24, List.forall_mem_cons.mpr ⟨lw_p25, List.forall_mem_cons.mpr ⟨lw_p26, List.forall_mem_cons.mpr ⟨lw_p27, List.forall_mem_cons.mpr ⟨lw_p28, List.forall_mem_cons.mpr ⟨lw_p29, List.forall_mem_cons.mpr ⟨lw_p30, List.forall_mem_cons.mpr ⟨lw_p31, fun _ h => absurd h List.not_mem_nil⟩⟩⟩⟩⟩⟩⟩⟩⟩⟩⟩⟩⟩⟩⟩⟩
theorem lw_p32 : lw_okq (⟨"NeedMachineModel", "sweep", "()V"⟩, 44) := ⟨⟨by decide +kernel, by decide +kernel⟩, List.mem_of_getElem? (i := 715) (by decide +kernel), List.mem_of_getElem? (i := 898) (by decide +kernel), List.mem_of_getElem? (i := 899) (by decide +kernel)⟩
theorem lw_p33 : lw_okq (⟨"NeedMachineModel", "skip", "(I)I"⟩, 44) := ⟨⟨by decide +kernel, by decide +kernel⟩, List.mem_of_getElem? (i := 715) (by decide +kernel), List.mem_of_getElem? (i := 902) (by decide +kernel), List.mem_of_getElem? (i := 903) (by decide +kernel)⟩
theorem lw_p34 : lw_okq (⟨"NeedMachineModel", "workOut", "(II)V"⟩, 44) := ⟨⟨by decide +kernel, by decide +kernel⟩, List.mem_of_getElem? (i := 715) (by decide +kernel), List.mem_of_getElem? (i := 906) (by decide +kernel), List.mem_of_getElem? (i := 907) (by decide +kernel)⟩
theorem lw_p35 : lw_okq (⟨"NeedMachineModel", "push", "(II)V"⟩, 44) := ⟨⟨by decide +kernel, by decide +kernel⟩, List.mem_of_getElem? (i := 715) (by decide +kernel), List.mem_of_getElem? (i := 910) (by decide +kernel), List.mem_of_getElem? (i := 911) (by decide +kernel)⟩
theorem lw_p36 : lw_okq (⟨"NeedMachineModel", "step", "()V"⟩, 44) := ⟨⟨by decide +kernel, by decide +kernel⟩, List.mem_of_getElem? (i := 715) (by decide +kernel), List.mem_of_getElem? (i := 914) (by decide +kernel), List.mem_of_getElem? (i := 915) (by decide +kernel)⟩
theorem lw_p37 : lw_okq (⟨"NeedMachineModel", "keepValue", "()V"⟩, 44) := ⟨⟨by decide +kernel, by decide +kernel⟩, List.mem_of_getElem? (i := 715) (by decide +kernel), List.mem_of_getElem? (i := 918) (by decide +kernel), List.mem_of_getElem? (i := 919) (by decide +kernel)⟩
theorem lw_p38 : lw_okq (⟨"NeedMachineModel", "giveClosure", "(I)V"⟩, 44) := ⟨⟨by decide +kernel, by decide +kernel⟩, List.mem_of_getElem? (i := 715) (by decide +kernel), List.mem_of_getElem? (i := 922) (by decide +kernel), List.mem_of_getElem? (i := 923) (by decide +kernel)⟩
theorem lw_p39 : lw_okq (⟨"NeedMachineModel", "give", "(III)V"⟩, 44) := ⟨⟨by decide +kernel, by decide +kernel⟩, List.mem_of_getElem? (i := 715) (by decide +kernel), List.mem_of_getElem? (i := 926) (by decide +kernel), List.mem_of_getElem? (i := 927) (by decide +kernel)⟩
theorem lw_p40 : lw_okq (⟨"NeedMachineModel", "goOn", "(II)V"⟩, 44) := ⟨⟨by decide +kernel, by decide +kernel⟩, List.mem_of_getElem? (i := 715) (by decide +kernel), List.mem_of_getElem? (i := 930) (by decide +kernel), List.mem_of_getElem? (i := 931) (by decide +kernel)⟩
theorem lw_p41 : lw_okq (⟨"NeedMachineModel", "apply", "(I)V"⟩, 44) := ⟨⟨by decide +kernel, by decide +kernel⟩, List.mem_of_getElem? (i := 715) (by decide +kernel), List.mem_of_getElem? (i := 934) (by decide +kernel), List.mem_of_getElem? (i := 935) (by decide +kernel)⟩
theorem lw_p42 : lw_okq (⟨"NeedMachineModel", "closureOf", "(II)I"⟩, 44) := ⟨⟨by decide +kernel, by decide +kernel⟩, List.mem_of_getElem? (i := 715) (by decide +kernel), List.mem_of_getElem? (i := 938) (by decide +kernel), List.mem_of_getElem? (i := 939) (by decide +kernel)⟩
theorem lw_p43 : lw_okq (⟨"NeedMachineModel", "parameterOf", "(II)I"⟩, 44) := ⟨⟨by decide +kernel, by decide +kernel⟩, List.mem_of_getElem? (i := 715) (by decide +kernel), List.mem_of_getElem? (i := 942) (by decide +kernel), List.mem_of_getElem? (i := 943) (by decide +kernel)⟩
theorem lw_p44 : lw_okq (⟨"NeedMachineModel", "countOf", "(I)I"⟩, 44) := ⟨⟨by decide +kernel, by decide +kernel⟩, List.mem_of_getElem? (i := 715) (by decide +kernel), List.mem_of_getElem? (i := 946) (by decide +kernel), List.mem_of_getElem? (i := 947) (by decide +kernel)⟩
theorem lw_p45 : lw_okq (⟨"NeedMachineModel", "call", "(III)V"⟩, 44) := ⟨⟨by decide +kernel, by decide +kernel⟩, List.mem_of_getElem? (i := 715) (by decide +kernel), List.mem_of_getElem? (i := 950) (by decide +kernel), List.mem_of_getElem? (i := 951) (by decide +kernel)⟩
theorem lw_p46 : lw_okq (⟨"NeedMachineModel", "force", "(I)V"⟩, 44) := ⟨⟨by decide +kernel, by decide +kernel⟩, List.mem_of_getElem? (i := 715) (by decide +kernel), List.mem_of_getElem? (i := 954) (by decide +kernel), List.mem_of_getElem? (i := 955) (by decide +kernel)⟩
theorem lw_p47 : lw_okq (⟨"NeedMachineModel", "isNumber", "()Z"⟩, 44) := ⟨⟨by decide +kernel, by decide +kernel⟩, List.mem_of_getElem? (i := 715) (by decide +kernel), List.mem_of_getElem? (i := 958) (by decide +kernel), List.mem_of_getElem? (i := 959) (by decide +kernel)⟩
def lw_privs_3 : List (MethodName × Nat) := [(⟨"NeedMachineModel", "sweep", "()V"⟩, 44), (⟨"NeedMachineModel", "skip", "(I)I"⟩, 44), (⟨"NeedMachineModel", "workOut", "(II)V"⟩, 44), (⟨"NeedMachineModel", "push", "(II)V"⟩, 44), (⟨"NeedMachineModel", "step", "()V"⟩, 44), (⟨"NeedMachineModel", "keepValue", "()V"⟩, 44), (⟨"NeedMachineModel", "giveClosure", "(I)V"⟩, 44), (⟨"NeedMachineModel", "give", "(III)V"⟩, 44), (⟨"NeedMachineModel", "goOn", "(II)V"⟩, 44), (⟨"NeedMachineModel", "apply", "(I)V"⟩, 44), (⟨"NeedMachineModel", "closureOf", "(II)I"⟩, 44), (⟨"NeedMachineModel", "parameterOf", "(II)I"⟩, 44), (⟨"NeedMachineModel", "countOf", "(I)I"⟩, 44), (⟨"NeedMachineModel", "call", "(III)V"⟩, 44), (⟨"NeedMachineModel", "force", "(I)V"⟩, 44), (⟨"NeedMachineModel", "isNumber", "()Z"⟩, 44)]
theorem lw_r3 : ∀ q ∈ lw_privs_3, lw_okq q := List.forall_mem_cons.mpr ⟨lw_p32, List.forall_mem_cons.mpr ⟨lw_p33, List.forall_mem_cons.mpr ⟨lw_p34, List.forall_mem_cons.mpr ⟨lw_p35, List.forall_mem_cons.mpr ⟨lw_p36, List.forall_mem_cons.mpr ⟨lw_p37, List.forall_mem_cons.mpr ⟨lw_p38, List.forall_mem_cons.mpr ⟨lw_p39, List.forall_mem_cons.mpr ⟨lw_p40, List.forall_mem_cons.mpr ⟨lw_p41, List.forall_mem_cons.mpr ⟨lw_p42, List.forall_mem_cons.mpr ⟨lw_p43, List.forall_mem_cons.mpr ⟨lw_p44, List.forall_mem_cons.mpr ⟨lw_p45, List.forall_mem_cons.mpr ⟨lw_p46, List.forall_mem_cons.mpr ⟨lw_p47, fun _ h => absurd h List.not_mem_nil⟩⟩⟩⟩⟩⟩⟩⟩⟩⟩⟩⟩⟩⟩⟩⟩
theorem lw_p48 : lw_okq (⟨"NeedMachineModel", "binary", "(III)I"⟩, 44) := ⟨⟨by decide +kernel, by decide +kernel⟩, List.mem_of_getElem? (i := 715) (by decide +kernel), List.mem_of_getElem? (i := 962) (by decide +kernel), List.mem_of_getElem? (i := 963) (by decide +kernel)⟩
theorem lw_p49 : lw_okq (⟨"NeedMachineModel", "nameAt", "(I)V"⟩, 44) := ⟨⟨by decide +kernel, by decide +kernel⟩, List.mem_of_getElem? (i := 715) (by decide +kernel), List.mem_of_getElem? (i := 966) (by decide +kernel), List.mem_of_getElem? (i := 967) (by decide +kernel)⟩
theorem lw_p50 : lw_okq (⟨"NeedMachineModel", "answer", "()I"⟩, 44) := ⟨⟨by decide +kernel, by decide +kernel⟩, List.mem_of_getElem? (i := 715) (by decide +kernel), List.mem_of_getElem? (i := 970) (by decide +kernel), List.mem_of_getElem? (i := 971) (by decide +kernel)⟩
theorem lw_p51 : lw_okq (⟨"NeedMachineModel", "side", "(Z)Z"⟩, 44) := ⟨⟨by decide +kernel, by decide +kernel⟩, List.mem_of_getElem? (i := 715) (by decide +kernel), List.mem_of_getElem? (i := 982) (by decide +kernel), List.mem_of_getElem? (i := 983) (by decide +kernel)⟩
def lw_privs_4 : List (MethodName × Nat) := [(⟨"NeedMachineModel", "binary", "(III)I"⟩, 44), (⟨"NeedMachineModel", "nameAt", "(I)V"⟩, 44), (⟨"NeedMachineModel", "answer", "()I"⟩, 44), (⟨"NeedMachineModel", "side", "(Z)Z"⟩, 44)]
theorem lw_r4 : ∀ q ∈ lw_privs_4, lw_okq q := List.forall_mem_cons.mpr ⟨lw_p48, List.forall_mem_cons.mpr ⟨lw_p49, List.forall_mem_cons.mpr ⟨lw_p50, List.forall_mem_cons.mpr ⟨lw_p51, fun _ h => absurd h List.not_mem_nil⟩⟩⟩⟩
def lw_privs : List (MethodName × Nat) := lw_privs_1 ++ (lw_privs_2 ++ (lw_privs_3 ++ (lw_privs_4)))
def lw_tbl : List Cond := k2_sels lw_privs ++ tables_1
theorem lw_privs_ok : ∀ q ∈ lw_privs, lw_okq q := by
  show ∀ q ∈ lw_privs_1 ++ (lw_privs_2 ++ (lw_privs_3 ++ (lw_privs_4))), lw_okq q
  exact List.forall_mem_append.mpr ⟨lw_r1, List.forall_mem_append.mpr ⟨lw_r2, List.forall_mem_append.mpr ⟨lw_r3, lw_r4⟩⟩⟩
-- ===== end of PART A; then your names; then what follows =====
end
section
/-! THE TABLES OF THE SMALL MACHINE, laid by wip/gen/gen.py out of the claim's own listing: 119 methods -/
def zm_no : Nat := 2
def zm_w : Nat := 41
def zm_C : Nat := 601026
def zm_S : Nat := 7293034
def zm_T0 : u_T := fun k => match k with
  | 0 => ("NeedMachine", "text", "LNeedMachine$Text;", true)
  | 1 => ("NeedMachine", "store", "LNeedMachine$Store;", true)
  | 2 => ("NeedMachine", "definitions", "[LNeedMachine$Definition;", true)
  | 3 => ("NeedMachine", "result", "LNeedMachine$Value;", false)
  | 4 => ("NeedMachine", "calls", "I", false)
  | 5 => ("NeedMachine", "callsOfAll", "I", false)
  | 6 => ("NeedMachine", "forcedFirst", "I", false)
  | 7 => ("NeedMachine", "forcedLater", "I", false)
  | 8 => ("NeedMachine", "deepest", "I", false)
  | _ => ("", "", "", false)
def zm_T1 : u_T := fun k => match k with
  | 0 => ("NeedMachine$Text", "length", "I", false)
  | 1 => ("NeedMachine$Text", "badPlace", "I", false)
  | 2 => ("NeedMachine$Text", "characters", "[C", true)
  | 3 => ("NeedMachine$Text", "parameters", "[C", true)
  | 4 => ("NeedMachine$Text", "parametersRead", "I", false)
  | 5 => ("NeedMachine$Text", "end", "I", false)
  | 6 => ("NeedMachine$Text", "place", "I", false)
  | 7 => ("NeedMachine$Text", "owed", "I", false)
  | _ => ("", "", "", false)
def zm_T2 : u_T := fun k => match k with
  | 0 => ("NeedMachine$Store", "nil", "LNeedMachine$Value;", true)
  | 1 => ("NeedMachine$Store", "values", "Ljava/util/ArrayList;", true)
  | 2 => ("NeedMachine$Store", "closures", "Ljava/util/ArrayList;", true)
  | 3 => ("NeedMachine$Store", "chains", "Ljava/util/ArrayList;", true)
  | 4 => ("NeedMachine$Store", "valuesUsed", "I", false)
  | 5 => ("NeedMachine$Store", "closuresUsed", "I", false)
  | 6 => ("NeedMachine$Store", "chainsUsed", "I", false)
  | _ => ("", "", "", false)
def zm_T3 : u_T := fun k => match k with
  | 0 => ("NeedMachine$Value", "kind", "I", false)
  | 1 => ("NeedMachine$Value", "number", "I", false)
  | 2 => ("NeedMachine$Value", "head", "LNeedMachine$Closure;", false)
  | 3 => ("NeedMachine$Value", "tail", "LNeedMachine$Closure;", false)
  | 4 => ("NeedMachine$Value", "arguments", "LNeedMachine$Arguments;", false)
  | _ => ("", "", "", false)
def zm_T4 : u_T := fun k => match k with
  | 0 => ("java/util/ArrayList", "elementData", "[Ljava/lang/Object;", false)
  | 1 => ("java/util/ArrayList", "size", "I", false)
  | 2 => ("java/util/AbstractList", "modCount", "I", false)
  | _ => ("", "", "", false)
def zm_T5 : u_T := fun k => match k with
  | 0 => ("NeedMachineModel", "text", "[I", true)
  | 1 => ("NeedMachineModel", "pool", "[I", true)
  | 2 => ("NeedMachineModel", "spare", "[I", true)
  | 3 => ("NeedMachineModel", "body", "[I", true)
  | 4 => ("NeedMachineModel", "letters", "[I", true)
  | 5 => ("NeedMachineModel", "parameters", "[I", true)
  | 6 => ("NeedMachineModel", "need", "[I", true)
  | 7 => ("NeedMachineModel", "defined", "[Z", true)
  | 8 => ("NeedMachineModel", "size", "I", false)
  | 9 => ("NeedMachineModel", "place", "I", false)
  | 10 => ("NeedMachineModel", "pos", "I", false)
  | 11 => ("NeedMachineModel", "pooled", "I", false)
  | 12 => ("NeedMachineModel", "thrown", "I", false)
  | 13 => ("NeedMachineModel", "expression", "[I", true)
  | 14 => ("NeedMachineModel", "around", "[I", true)
  | 15 => ("NeedMachineModel", "state", "[I", true)
  | 16 => ("NeedMachineModel", "kind", "[I", true)
  | 17 => ("NeedMachineModel", "first", "[I", true)
  | 18 => ("NeedMachineModel", "second", "[I", true)
  | 19 => ("NeedMachineModel", "name", "[I", true)
  | 20 => ("NeedMachineModel", "holds", "[I", true)
  | 21 => ("NeedMachineModel", "argument", "[I", true)
  | 22 => ("NeedMachineModel", "before", "[I", true)
  | 23 => ("NeedMachineModel", "closures", "I", false)
  | 24 => ("NeedMachineModel", "surroundings", "I", false)
  | 25 => ("NeedMachineModel", "arguments", "I", false)
  | 26 => ("NeedMachineModel", "at", "[I", true)
  | 27 => ("NeedMachineModel", "in", "[I", true)
  | 28 => ("NeedMachineModel", "stage", "[I", true)
  | 29 => ("NeedMachineModel", "kept", "[I", true)
  | 30 => ("NeedMachineModel", "forcing", "[I", true)
  | 31 => ("NeedMachineModel", "depth", "I", false)
  | 32 => ("NeedMachineModel", "deepest", "I", false)
  | 33 => ("NeedMachineModel", "callsNow", "I", false)
  | 34 => ("NeedMachineModel", "calls", "I", false)
  | 35 => ("NeedMachineModel", "forced", "I", false)
  | 36 => ("NeedMachineModel", "again", "I", false)
  | 37 => ("NeedMachineModel", "outKind", "I", false)
  | 38 => ("NeedMachineModel", "outFirst", "I", false)
  | 39 => ("NeedMachineModel", "outSecond", "I", false)
  | 40 => ("NeedMachineModel", "resultKind", "I", false)
  | 41 => ("NeedMachineModel", "resultFirst", "I", false)
  | 42 => ("NeedMachineModel", "resultSecond", "I", false)
  | 43 => ("NeedMachineModel", "has", "Z", false)
  | _ => ("", "", "", false)
def zm_T6 : u_T := fun k => match k with
  | 0 => ("NeedMachine$Definition", "name", "I", true)
  | 1 => ("NeedMachine$Definition", "parameters", "I", true)
  | 2 => ("NeedMachine$Definition", "body", "LNeedMachine$Expression;", true)
  | _ => ("", "", "", false)
def zm_T7 : u_T := fun k => match k with
  | 0 => ("NeedMachine$Expression", "sign", "C", true)
  | 1 => ("NeedMachine$Expression", "index", "I", true)
  | 2 => ("NeedMachine$Expression", "first", "LNeedMachine$Expression;", true)
  | 3 => ("NeedMachine$Expression", "second", "LNeedMachine$Expression;", true)
  | 4 => ("NeedMachine$Expression", "third", "LNeedMachine$Expression;", true)
  | _ => ("", "", "", false)
def zm_T8 : u_T := fun k => match k with
  | 0 => ("NeedMachine$Closure", "expression", "LNeedMachine$Expression;", false)
  | 1 => ("NeedMachine$Closure", "given", "LNeedMachine$Arguments;", false)
  | 2 => ("NeedMachine$Closure", "begun", "Z", false)
  | 3 => ("NeedMachine$Closure", "value", "LNeedMachine$Value;", false)
  | _ => ("", "", "", false)
def zm_T9 : u_T := fun k => match k with
  | 0 => ("NeedMachine$Arguments", "before", "LNeedMachine$Arguments;", false)
  | 1 => ("NeedMachine$Arguments", "last", "LNeedMachine$Closure;", false)
  | 2 => ("NeedMachine$Arguments", "size", "I", false)
  | _ => ("", "", "", false)
def zm_cl : List vw_C := [("NeedMachine", zm_T0, 9), ("NeedMachine$Text", zm_T1, 8), ("NeedMachine$Store", zm_T2, 7), ("NeedMachine$Value", zm_T3, 5), ("java/util/ArrayList", zm_T4, 3), ("NeedMachineModel", zm_T5, 44), ("NeedMachine$Definition", zm_T6, 3), ("NeedMachine$Expression", zm_T7, 5), ("NeedMachine$Closure", zm_T8, 4), ("NeedMachine$Arguments", zm_T9, 3)]
def zm_ft : List (List FieldType) := [[.object "NeedMachine$Text", .object "NeedMachine$Store", .array (.object "NeedMachine$Definition"), .object "NeedMachine$Value", .int, .int, .int, .int, .int], [.int, .int, .array .char, .array .char, .int, .int, .int, .int], [.object "NeedMachine$Value", .object "java/util/ArrayList", .object "java/util/ArrayList", .object "java/util/ArrayList", .int, .int, .int], [.int, .int, .object "NeedMachine$Closure", .object "NeedMachine$Closure", .object "NeedMachine$Arguments"], [.array (.object "java/lang/Object"), .int, .int], [.array .int, .array .int, .array .int, .array .int, .array .int, .array .int, .array .int, .array .boolean, .int, .int, .int, .int, .int, .array .int, .array .int, .array .int, .array .int, .array .int, .array .int, .array .int, .array .int, .array .int, .array .int, .int, .int, .int, .array .int, .array .int, .array .int, .array .int, .array .int, .int, .int, .int, .int, .int, .int, .int, .int, .int, .int, .int, .int, .boolean], [.int, .int, .object "NeedMachine$Expression"], [.char, .int, .object "NeedMachine$Expression", .object "NeedMachine$Expression", .object "NeedMachine$Expression"], [.object "NeedMachine$Expression", .object "NeedMachine$Arguments", .boolean, .object "NeedMachine$Value"], [.object "NeedMachine$Arguments", .object "NeedMachine$Closure", .int]]
def zm_aty : List FieldType := [.int, .char, .long, .boolean, .object "NeedMachine$Definition", .object "java/lang/Object"]
/-- statics that are read: the old cell, where it stands -/
def zm_os : List (Nat × String × String × String) := [(1, "java/util/ArrayList", "DEFAULTCAPACITY_EMPTY_ELEMENTDATA", "[Ljava/lang/Object;")]
def zm_sub : List (Nat × Nat) := [(4, 6), (5, 3), (5, 8), (5, 9)]
def zm_xn : List String := ["java/lang/IllegalArgumentException", "java/lang/IllegalStateException", "java/util/NoSuchElementException", "java/lang/UnsupportedOperationException", "java/lang/ArithmeticException"]
/-- words that the start gives beside the tables' -/
def zm_ex : List Cond := [.not (.castable "java/lang/IllegalArgumentException" "java/lang/IllegalStateException"), .not (.castable "java/lang/IllegalArgumentException" "java/util/NoSuchElementException"), .not (.castable "java/lang/IllegalArgumentException" "java/lang/UnsupportedOperationException"), .not (.castable "java/lang/IllegalArgumentException" "java/lang/ArithmeticException"), .not (.castable "java/lang/IllegalStateException" "java/lang/IllegalArgumentException"), .not (.castable "java/lang/IllegalStateException" "java/util/NoSuchElementException"), .not (.castable "java/lang/IllegalStateException" "java/lang/UnsupportedOperationException"), .not (.castable "java/lang/IllegalStateException" "java/lang/ArithmeticException"), .not (.castable "java/util/NoSuchElementException" "java/lang/IllegalArgumentException"), .not (.castable "java/util/NoSuchElementException" "java/lang/IllegalStateException"), .not (.castable "java/util/NoSuchElementException" "java/lang/UnsupportedOperationException"), .not (.castable "java/util/NoSuchElementException" "java/lang/ArithmeticException"), .not (.castable "java/lang/UnsupportedOperationException" "java/lang/IllegalArgumentException"), .not (.castable "java/lang/UnsupportedOperationException" "java/lang/IllegalStateException"), .not (.castable "java/lang/UnsupportedOperationException" "java/util/NoSuchElementException"), .not (.castable "java/lang/UnsupportedOperationException" "java/lang/ArithmeticException"), .not (.castable "java/lang/ArithmeticException" "java/lang/IllegalArgumentException"), .not (.castable "java/lang/ArithmeticException" "java/lang/IllegalStateException"), .not (.castable "java/lang/ArithmeticException" "java/util/NoSuchElementException"), .not (.castable "java/lang/ArithmeticException" "java/lang/UnsupportedOperationException"), .isRef (.static "java/lang/Throwable" "UNASSIGNED_STACK" "[Ljava/lang/StackTraceElement;"), .isRef (.static "java/lang/Throwable" "SUPPRESSED_SENTINEL" "Ljava/util/List;"), .isRef (.mirror "[Ljava/lang/Object;")]
def zm_tb : List Cond := lw_tbl ++ zm_ex
def zm_m0 : MethodName × ByteArray × Nat × Option FieldType × List (Nat × Nat × Nat × Nat) := (⟨"NeedMachineLaw", "law", "([I)Z"⟩, code, 7, ret, [])
def zm_m1 : MethodName × ByteArray × Nat × Option FieldType × List (Nat × Nat × Nat × Nat) := (⟨"NeedMachine", "<init>", "()V"⟩, prog_1_method_1_code, 1, none, [])
def zm_m2 : MethodName × ByteArray × Nat × Option FieldType × List (Nat × Nat × Nat × Nat) := (⟨"java/lang/Object", "<init>", "()V"⟩, object_method_1_code, 1, none, [])
def zm_m3 : MethodName × ByteArray × Nat × Option FieldType × List (Nat × Nat × Nat × Nat) := (⟨"NeedMachine$Text", "<init>", "()V"⟩, prog_7_method_1_code, 1, none, [])
def zm_m4 : MethodName × ByteArray × Nat × Option FieldType × List (Nat × Nat × Nat × Nat) := (⟨"NeedMachine$Store", "<init>", "()V"⟩, prog_6_method_1_code, 1, none, [])
def zm_m5 : MethodName × ByteArray × Nat × Option FieldType × List (Nat × Nat × Nat × Nat) := (⟨"NeedMachine$Value", "<init>", "()V"⟩, prog_8_method_1_code, 1, none, [])
def zm_m6 : MethodName × ByteArray × Nat × Option FieldType × List (Nat × Nat × Nat × Nat) := (⟨"java/util/ArrayList", "<init>", "()V"⟩, prog_26_method_2_code, 1, none, [])
def zm_m7 : MethodName × ByteArray × Nat × Option FieldType × List (Nat × Nat × Nat × Nat) := (⟨"java/util/AbstractList", "<init>", "()V"⟩, prog_25_method_1_code, 1, none, [])
def zm_m8 : MethodName × ByteArray × Nat × Option FieldType × List (Nat × Nat × Nat × Nat) := (⟨"java/util/AbstractCollection", "<init>", "()V"⟩, prog_24_method_1_code, 1, none, [])
def zm_m9 : MethodName × ByteArray × Nat × Option FieldType × List (Nat × Nat × Nat × Nat) := (⟨"NeedMachine", "count", "(I)I"⟩, prog_1_method_9_code, 2, (some .int), [])
def zm_m10 : MethodName × ByteArray × Nat × Option FieldType × List (Nat × Nat × Nat × Nat) := (⟨"NeedMachine", "countDefinitions", "()I"⟩, prog_1_method_10_code, 6, (some .int), [])
def zm_m11 : MethodName × ByteArray × Nat × Option FieldType × List (Nat × Nat × Nat × Nat) := (⟨"NeedMachineLaw", "type", "(LNeedMachine;J[J)I"⟩, method_3_code, 5, (some .int), [(0, 9, 12, 13), (0, 9, 16, 15)])
def zm_m12 : MethodName × ByteArray × Nat × Option FieldType × List (Nat × Nat × Nat × Nat) := (⟨"NeedMachine", "type", "(J)I"⟩, prog_1_method_2_code, 3, (some .int), [])
def zm_m13 : MethodName × ByteArray × Nat × Option FieldType × List (Nat × Nat × Nat × Nat) := (⟨"NeedMachine$Text", "add", "(J)I"⟩, prog_7_method_2_code, 6, (some .int), [])
def zm_m14 : MethodName × ByteArray × Nat × Option FieldType × List (Nat × Nat × Nat × Nat) := (⟨"NeedMachine$Text", "byteAt", "(JI)I"⟩, prog_7_method_3_code, 3, (some .int), [])
def zm_m15 : MethodName × ByteArray × Nat × Option FieldType × List (Nat × Nat × Nat × Nat) := (⟨"NeedMachineLaw", "define", "(LNeedMachine;[J)I"⟩, method_4_code, 3, (some .int), [(0, 8, 11, 13)])
def zm_m16 : MethodName × ByteArray × Nat × Option FieldType × List (Nat × Nat × Nat × Nat) := (⟨"NeedMachine", "define", "()I"⟩, prog_1_method_3_code, 2, (some .int), [])
def zm_m17 : MethodName × ByteArray × Nat × Option FieldType × List (Nat × Nat × Nat × Nat) := (⟨"NeedMachine$Text", "readDefinition", "()LNeedMachine$Definition;"⟩, prog_7_method_4_code, 2, (some (.object "NeedMachine$Definition")), [])
def zm_m18 : MethodName × ByteArray × Nat × Option FieldType × List (Nat × Nat × Nat × Nat) := (⟨"NeedMachine$Text", "beginReading", "()V"⟩, prog_7_method_6_code, 1, none, [])
def zm_m19 : MethodName × ByteArray × Nat × Option FieldType × List (Nat × Nat × Nat × Nat) := (⟨"NeedMachine$Text", "isName", "(C)Z"⟩, prog_7_method_16_code, 1, (some .boolean), [])
def zm_m20 : MethodName × ByteArray × Nat × Option FieldType × List (Nat × Nat × Nat × Nat) := (⟨"NeedMachine$Text", "refuseUnless", "(Z)V"⟩, prog_7_method_18_code, 2, none, [])
def zm_m21 : MethodName × ByteArray × Nat × Option FieldType × List (Nat × Nat × Nat × Nat) := (⟨"NeedMachine$Text", "readParameters", "()V"⟩, prog_7_method_7_code, 1, none, [])
def zm_m22 : MethodName × ByteArray × Nat × Option FieldType × List (Nat × Nat × Nat × Nat) := (⟨"NeedMachine$Text", "isNewParameter", "(C)Z"⟩, prog_7_method_13_code, 2, (some .boolean), [])
def zm_m23 : MethodName × ByteArray × Nat × Option FieldType × List (Nat × Nat × Nat × Nat) := (⟨"NeedMachine$Text", "parameterIndex", "(C)I"⟩, prog_7_method_14_code, 3, (some .int), [])
def zm_m24 : MethodName × ByteArray × Nat × Option FieldType × List (Nat × Nat × Nat × Nat) := (⟨"NeedMachine$Text", "readToTheEnd", "()LNeedMachine$Expression;"⟩, prog_7_method_8_code, 2, (some (.object "NeedMachine$Expression")), [])
def zm_m25 : MethodName × ByteArray × Nat × Option FieldType × List (Nat × Nat × Nat × Nat) := (⟨"NeedMachine$Text", "readExpression", "(I)LNeedMachine$Expression;"⟩, prog_7_method_9_code, 7, (some (.object "NeedMachine$Expression")), [])
def zm_m26 : MethodName × ByteArray × Nat × Option FieldType × List (Nat × Nat × Nat × Nat) := (⟨"NeedMachine$Text", "canStand", "(CI)Z"⟩, prog_7_method_11_code, 4, (some .boolean), [])
def zm_m27 : MethodName × ByteArray × Nat × Option FieldType × List (Nat × Nat × Nat × Nat) := (⟨"NeedMachine$Text", "partsOf", "(C)I"⟩, prog_7_method_17_code, 1, (some .int), [])
def zm_m28 : MethodName × ByteArray × Nat × Option FieldType × List (Nat × Nat × Nat × Nat) := (⟨"NeedMachine$Text", "isLeaf", "(C)Z"⟩, prog_7_method_12_code, 2, (some .boolean), [])
def zm_m29 : MethodName × ByteArray × Nat × Option FieldType × List (Nat × Nat × Nat × Nat) := (⟨"NeedMachine$Text", "isDigit", "(C)Z"⟩, prog_7_method_15_code, 1, (some .boolean), [])
def zm_m30 : MethodName × ByteArray × Nat × Option FieldType × List (Nat × Nat × Nat × Nat) := (⟨"NeedMachine$Text", "readLeaf", "(C)LNeedMachine$Expression;"⟩, prog_7_method_10_code, 3, (some (.object "NeedMachine$Expression")), [])
def zm_m31 : MethodName × ByteArray × Nat × Option FieldType × List (Nat × Nat × Nat × Nat) := (⟨"NeedMachine$Expression", "<init>", "(CILNeedMachine$Expression;LNeedMachine$Expression;LNeedMachine$Expression;)V"⟩, prog_5_method_1_code, 6, none, [])
def zm_m32 : MethodName × ByteArray × Nat × Option FieldType × List (Nat × Nat × Nat × Nat) := (⟨"NeedMachine$Definition", "<init>", "(IILNeedMachine$Expression;)V"⟩, prog_4_method_1_code, 4, none, [])
def zm_m33 : MethodName × ByteArray × Nat × Option FieldType × List (Nat × Nat × Nat × Nat) := (⟨"NeedMachineLaw", "ask", "(LNeedMachine;[J)I"⟩, method_5_code, 3, (some .int), [(0, 8, 11, 13), (0, 8, 14, 24), (0, 8, 17, 26), (0, 8, 20, 15), (0, 8, 23, 28)])
def zm_m34 : MethodName × ByteArray × Nat × Option FieldType × List (Nat × Nat × Nat × Nat) := (⟨"NeedMachine", "ask", "()I"⟩, prog_1_method_4_code, 2, (some .int), [])
def zm_m35 : MethodName × ByteArray × Nat × Option FieldType × List (Nat × Nat × Nat × Nat) := (⟨"NeedMachine$Text", "readAsked", "()LNeedMachine$Expression;"⟩, prog_7_method_5_code, 1, (some (.object "NeedMachine$Expression")), [])
def zm_m36 : MethodName × ByteArray × Nat × Option FieldType × List (Nat × Nat × Nat × Nat) := (⟨"NeedMachine$Store", "takeAllBack", "()V"⟩, prog_6_method_2_code, 1, none, [])
def zm_m37 : MethodName × ByteArray × Nat × Option FieldType × List (Nat × Nat × Nat × Nat) := (⟨"NeedMachine", "work", "(LNeedMachine$Expression;LNeedMachine$Arguments;I)LNeedMachine$Value;"⟩, prog_1_method_12_code, 4, (some (.object "NeedMachine$Value")), [])
def zm_m38 : MethodName × ByteArray × Nat × Option FieldType × List (Nat × Nat × Nat × Nat) := (⟨"NeedMachine$Store", "makeNumber", "(I)LNeedMachine$Value;"⟩, prog_6_method_3_code, 3, (some (.object "NeedMachine$Value")), [])
def zm_m39 : MethodName × ByteArray × Nat × Option FieldType × List (Nat × Nat × Nat × Nat) := (⟨"NeedMachine$Store", "nextValue", "(I)LNeedMachine$Value;"⟩, prog_6_method_8_code, 3, (some (.object "NeedMachine$Value")), [])
def zm_m40 : MethodName × ByteArray × Nat × Option FieldType × List (Nat × Nat × Nat × Nat) := (⟨"NeedMachine", "argumentAt", "(LNeedMachine$Arguments;I)LNeedMachine$Closure;"⟩, prog_1_method_22_code, 3, (some (.object "NeedMachine$Closure")), [])
def zm_m41 : MethodName × ByteArray × Nat × Option FieldType × List (Nat × Nat × Nat × Nat) := (⟨"NeedMachine", "force", "(LNeedMachine$Closure;I)LNeedMachine$Value;"⟩, prog_1_method_19_code, 4, (some (.object "NeedMachine$Value")), [])
def zm_m42 : MethodName × ByteArray × Nat × Option FieldType × List (Nat × Nat × Nat × Nat) := (⟨"NeedMachine", "mustBeWorkedOut", "(LNeedMachine$Closure;)LNeedMachine$Value;"⟩, prog_1_method_23_code, 1, (some (.object "NeedMachine$Value")), [])
def zm_m43 : MethodName × ByteArray × Nat × Option FieldType × List (Nat × Nat × Nat × Nat) := (⟨"NeedMachine", "workName", "(II)LNeedMachine$Value;"⟩, prog_1_method_13_code, 4, (some (.object "NeedMachine$Value")), [])
def zm_m44 : MethodName × ByteArray × Nat × Option FieldType × List (Nat × Nat × Nat × Nat) := (⟨"NeedMachine", "definitionOf", "(I)LNeedMachine$Definition;"⟩, prog_1_method_21_code, 3, (some (.object "NeedMachine$Definition")), [])
def zm_m45 : MethodName × ByteArray × Nat × Option FieldType × List (Nat × Nat × Nat × Nat) := (⟨"NeedMachine", "call", "(LNeedMachine$Definition;LNeedMachine$Arguments;I)LNeedMachine$Value;"⟩, prog_1_method_15_code, 4, (some (.object "NeedMachine$Value")), [])
def zm_m46 : MethodName × ByteArray × Nat × Option FieldType × List (Nat × Nat × Nat × Nat) := (⟨"NeedMachine$Store", "makeFunction", "(ILNeedMachine$Arguments;)LNeedMachine$Value;"⟩, prog_6_method_5_code, 4, (some (.object "NeedMachine$Value")), [])
def zm_m47 : MethodName × ByteArray × Nat × Option FieldType × List (Nat × Nat × Nat × Nat) := (⟨"NeedMachine", "closureOf", "(LNeedMachine$Expression;LNeedMachine$Arguments;)LNeedMachine$Closure;"⟩, prog_1_method_20_code, 3, (some (.object "NeedMachine$Closure")), [])
def zm_m48 : MethodName × ByteArray × Nat × Option FieldType × List (Nat × Nat × Nat × Nat) := (⟨"NeedMachine$Store", "makeClosure", "(LNeedMachine$Expression;LNeedMachine$Arguments;)LNeedMachine$Closure;"⟩, prog_6_method_6_code, 4, (some (.object "NeedMachine$Closure")), [])
def zm_m49 : MethodName × ByteArray × Nat × Option FieldType × List (Nat × Nat × Nat × Nat) := (⟨"NeedMachine$Closure", "<init>", "()V"⟩, prog_3_method_1_code, 1, none, [])
def zm_m50 : MethodName × ByteArray × Nat × Option FieldType × List (Nat × Nat × Nat × Nat) := (⟨"NeedMachine$Store", "makePair", "(LNeedMachine$Closure;LNeedMachine$Closure;)LNeedMachine$Value;"⟩, prog_6_method_4_code, 4, (some (.object "NeedMachine$Value")), [])
def zm_m51 : MethodName × ByteArray × Nat × Option FieldType × List (Nat × Nat × Nat × Nat) := (⟨"NeedMachine", "apply", "(LNeedMachine$Expression;LNeedMachine$Arguments;I)LNeedMachine$Value;"⟩, prog_1_method_14_code, 7, (some (.object "NeedMachine$Value")), [])
def zm_m52 : MethodName × ByteArray × Nat × Option FieldType × List (Nat × Nat × Nat × Nat) := (⟨"NeedMachine$Store", "makeArguments", "(LNeedMachine$Arguments;LNeedMachine$Closure;)LNeedMachine$Arguments;"⟩, prog_6_method_7_code, 4, (some (.object "NeedMachine$Arguments")), [])
def zm_m53 : MethodName × ByteArray × Nat × Option FieldType × List (Nat × Nat × Nat × Nat) := (⟨"NeedMachine$Arguments", "<init>", "()V"⟩, prog_2_method_1_code, 1, none, [])
def zm_m54 : MethodName × ByteArray × Nat × Option FieldType × List (Nat × Nat × Nat × Nat) := (⟨"NeedMachine", "mustBePair", "(LNeedMachine$Value;)LNeedMachine$Value;"⟩, prog_1_method_25_code, 1, (some (.object "NeedMachine$Value")), [])
def zm_m55 : MethodName × ByteArray × Nat × Option FieldType × List (Nat × Nat × Nat × Nat) := (⟨"NeedMachine", "isNil", "(LNeedMachine$Value;)I"⟩, prog_1_method_26_code, 1, (some .int), [])
def zm_m56 : MethodName × ByteArray × Nat × Option FieldType × List (Nat × Nat × Nat × Nat) := (⟨"NeedMachine", "choose", "(LNeedMachine$Expression;LNeedMachine$Arguments;I)LNeedMachine$Value;"⟩, prog_1_method_16_code, 5, (some (.object "NeedMachine$Value")), [])
def zm_m57 : MethodName × ByteArray × Nat × Option FieldType × List (Nat × Nat × Nat × Nat) := (⟨"NeedMachine", "mustBeNumber", "(LNeedMachine$Value;)I"⟩, prog_1_method_24_code, 1, (some .int), [])
def zm_m58 : MethodName × ByteArray × Nat × Option FieldType × List (Nat × Nat × Nat × Nat) := (⟨"NeedMachine", "reckon", "(LNeedMachine$Expression;LNeedMachine$Arguments;I)LNeedMachine$Value;"⟩, prog_1_method_17_code, 6, (some (.object "NeedMachine$Value")), [])
def zm_m59 : MethodName × ByteArray × Nat × Option FieldType × List (Nat × Nat × Nat × Nat) := (⟨"NeedMachine", "reckonNumbers", "(CII)I"⟩, prog_1_method_18_code, 3, (some .int), [])
def zm_m60 : MethodName × ByteArray × Nat × Option FieldType × List (Nat × Nat × Nat × Nat) := (⟨"NeedMachine", "mustNotBeZero", "(I)I"⟩, prog_1_method_27_code, 1, (some .int), [])
def zm_m61 : MethodName × ByteArray × Nat × Option FieldType × List (Nat × Nat × Nat × Nat) := (⟨"NeedMachineLaw", "number", "(LNeedMachine;[J)I"⟩, method_6_code, 3, (some .int), [(0, 8, 11, 24), (0, 8, 14, 28)])
def zm_m62 : MethodName × ByteArray × Nat × Option FieldType × List (Nat × Nat × Nat × Nat) := (⟨"NeedMachine", "number", "()I"⟩, prog_1_method_5_code, 1, (some .int), [])
def zm_m63 : MethodName × ByteArray × Nat × Option FieldType × List (Nat × Nat × Nat × Nat) := (⟨"NeedMachineLaw", "head", "(LNeedMachine;[J)I"⟩, method_7_code, 3, (some .int), [(0, 8, 11, 24), (0, 8, 14, 26), (0, 8, 17, 15), (0, 8, 20, 28)])
def zm_m64 : MethodName × ByteArray × Nat × Option FieldType × List (Nat × Nat × Nat × Nat) := (⟨"NeedMachine", "head", "()I"⟩, prog_1_method_6_code, 3, (some .int), [])
def zm_m65 : MethodName × ByteArray × Nat × Option FieldType × List (Nat × Nat × Nat × Nat) := (⟨"NeedMachine", "takeResultPair", "()LNeedMachine$Value;"⟩, prog_1_method_11_code, 2, (some (.object "NeedMachine$Value")), [])
def zm_m66 : MethodName × ByteArray × Nat × Option FieldType × List (Nat × Nat × Nat × Nat) := (⟨"NeedMachineLaw", "tail", "(LNeedMachine;[J)I"⟩, method_8_code, 3, (some .int), [(0, 8, 11, 24), (0, 8, 14, 26), (0, 8, 17, 15), (0, 8, 20, 28)])
def zm_m67 : MethodName × ByteArray × Nat × Option FieldType × List (Nat × Nat × Nat × Nat) := (⟨"NeedMachine", "tail", "()I"⟩, prog_1_method_7_code, 2, (some .int), [])
def zm_m68 : MethodName × ByteArray × Nat × Option FieldType × List (Nat × Nat × Nat × Nat) := (⟨"NeedMachineLaw", "remove", "(LNeedMachine;I)I"⟩, method_9_code, 3, (some .int), [(0, 5, 8, 13), (0, 5, 11, 24)])
def zm_m69 : MethodName × ByteArray × Nat × Option FieldType × List (Nat × Nat × Nat × Nat) := (⟨"NeedMachine", "remove", "(I)V"⟩, prog_1_method_8_code, 2, none, [])
def zm_m70 : MethodName × ByteArray × Nat × Option FieldType × List (Nat × Nat × Nat × Nat) := (⟨"NeedMachineModel", "<init>", "()V"⟩, prog_10_method_1_code, 1, none, [])
def zm_m71 : MethodName × ByteArray × Nat × Option FieldType × List (Nat × Nat × Nat × Nat) := (⟨"NeedMachineModel", "type", "(J)I"⟩, prog_10_method_6_code, 7, (some .int), [])
def zm_m72 : MethodName × ByteArray × Nat × Option FieldType × List (Nat × Nat × Nat × Nat) := (⟨"NeedMachineModel", "between", "(III)Z"⟩, prog_10_method_3_code, 3, (some .boolean), [])
def zm_m73 : MethodName × ByteArray × Nat × Option FieldType × List (Nat × Nat × Nat × Nat) := (⟨"NeedMachineModel", "bad", "(Z)Z"⟩, prog_10_method_4_code, 2, (some .boolean), [])
def zm_m74 : MethodName × ByteArray × Nat × Option FieldType × List (Nat × Nat × Nat × Nat) := (⟨"NeedMachineModel", "fail", "(I)I"⟩, prog_10_method_5_code, 2, (some .int), [])
def zm_m75 : MethodName × ByteArray × Nat × Option FieldType × List (Nat × Nat × Nat × Nat) := (⟨"NeedMachineModel", "define", "()I"⟩, prog_10_method_12_code, 8, (some .int), [])
def zm_m76 : MethodName × ByteArray × Nat × Option FieldType × List (Nat × Nat × Nat × Nat) := (⟨"NeedMachineModel", "heading", "([I)I"⟩, prog_10_method_10_code, 4, (some .int), [])
def zm_m77 : MethodName × ByteArray × Nat × Option FieldType × List (Nat × Nat × Nat × Nat) := (⟨"NeedMachineModel", "look", "()I"⟩, prog_10_method_7_code, 1, (some .int), [])
def zm_m78 : MethodName × ByteArray × Nat × Option FieldType × List (Nat × Nat × Nat × Nat) := (⟨"NeedMachineModel", "read", "(I)Z"⟩, prog_10_method_9_code, 5, (some .boolean), [])
def zm_m79 : MethodName × ByteArray × Nat × Option FieldType × List (Nat × Nat × Nat × Nat) := (⟨"NeedMachineModel", "parts", "(I)I"⟩, prog_10_method_8_code, 1, (some .int), [])
def zm_m80 : MethodName × ByteArray × Nat × Option FieldType × List (Nat × Nat × Nat × Nat) := (⟨"NeedMachineModel", "store", "(I)I"⟩, prog_10_method_11_code, 4, (some .int), [])
def zm_m81 : MethodName × ByteArray × Nat × Option FieldType × List (Nat × Nat × Nat × Nat) := (⟨"NeedMachineModel", "ask", "()I"⟩, prog_10_method_32_code, 3, (some .int), [])
def zm_m82 : MethodName × ByteArray × Nat × Option FieldType × List (Nat × Nat × Nat × Nat) := (⟨"NeedMachineModel", "sweep", "()V"⟩, prog_10_method_13_code, 6, none, [])
def zm_m83 : MethodName × ByteArray × Nat × Option FieldType × List (Nat × Nat × Nat × Nat) := (⟨"NeedMachineModel", "skip", "(I)I"⟩, prog_10_method_14_code, 4, (some .int), [])
def zm_m84 : MethodName × ByteArray × Nat × Option FieldType × List (Nat × Nat × Nat × Nat) := (⟨"NeedMachineModel", "workOut", "(II)V"⟩, prog_10_method_30_code, 3, none, [])
def zm_m85 : MethodName × ByteArray × Nat × Option FieldType × List (Nat × Nat × Nat × Nat) := (⟨"NeedMachineModel", "push", "(II)V"⟩, prog_10_method_15_code, 3, none, [])
def zm_m86 : MethodName × ByteArray × Nat × Option FieldType × List (Nat × Nat × Nat × Nat) := (⟨"NeedMachineModel", "step", "()V"⟩, prog_10_method_29_code, 5, none, [])
def zm_m87 : MethodName × ByteArray × Nat × Option FieldType × List (Nat × Nat × Nat × Nat) := (⟨"NeedMachineModel", "keepValue", "()V"⟩, prog_10_method_21_code, 2, none, [])
def zm_m88 : MethodName × ByteArray × Nat × Option FieldType × List (Nat × Nat × Nat × Nat) := (⟨"NeedMachineModel", "giveClosure", "(I)V"⟩, prog_10_method_19_code, 2, none, [])
def zm_m89 : MethodName × ByteArray × Nat × Option FieldType × List (Nat × Nat × Nat × Nat) := (⟨"NeedMachineModel", "give", "(III)V"⟩, prog_10_method_16_code, 4, none, [])
def zm_m90 : MethodName × ByteArray × Nat × Option FieldType × List (Nat × Nat × Nat × Nat) := (⟨"NeedMachineModel", "goOn", "(II)V"⟩, prog_10_method_28_code, 5, none, [])
def zm_m91 : MethodName × ByteArray × Nat × Option FieldType × List (Nat × Nat × Nat × Nat) := (⟨"NeedMachineModel", "apply", "(I)V"⟩, prog_10_method_24_code, 6, none, [])
def zm_m92 : MethodName × ByteArray × Nat × Option FieldType × List (Nat × Nat × Nat × Nat) := (⟨"NeedMachineModel", "closureOf", "(II)I"⟩, prog_10_method_18_code, 3, (some .int), [])
def zm_m93 : MethodName × ByteArray × Nat × Option FieldType × List (Nat × Nat × Nat × Nat) := (⟨"NeedMachineModel", "parameterOf", "(II)I"⟩, prog_10_method_17_code, 4, (some .int), [])
def zm_m94 : MethodName × ByteArray × Nat × Option FieldType × List (Nat × Nat × Nat × Nat) := (⟨"NeedMachineModel", "countOf", "(I)I"⟩, prog_10_method_23_code, 4, (some .int), [])
def zm_m95 : MethodName × ByteArray × Nat × Option FieldType × List (Nat × Nat × Nat × Nat) := (⟨"NeedMachineModel", "call", "(III)V"⟩, prog_10_method_22_code, 7, none, [])
def zm_m96 : MethodName × ByteArray × Nat × Option FieldType × List (Nat × Nat × Nat × Nat) := (⟨"NeedMachineModel", "force", "(I)V"⟩, prog_10_method_20_code, 2, none, [])
def zm_m97 : MethodName × ByteArray × Nat × Option FieldType × List (Nat × Nat × Nat × Nat) := (⟨"NeedMachineModel", "isNumber", "()Z"⟩, prog_10_method_27_code, 1, (some .boolean), [])
def zm_m98 : MethodName × ByteArray × Nat × Option FieldType × List (Nat × Nat × Nat × Nat) := (⟨"NeedMachineModel", "binary", "(III)I"⟩, prog_10_method_26_code, 4, (some .int), [])
def zm_m99 : MethodName × ByteArray × Nat × Option FieldType × List (Nat × Nat × Nat × Nat) := (⟨"NeedMachineModel", "nameAt", "(I)V"⟩, prog_10_method_25_code, 2, none, [])
def zm_m100 : MethodName × ByteArray × Nat × Option FieldType × List (Nat × Nat × Nat × Nat) := (⟨"NeedMachineModel", "answer", "()I"⟩, prog_10_method_31_code, 1, (some .int), [])
def zm_m101 : MethodName × ByteArray × Nat × Option FieldType × List (Nat × Nat × Nat × Nat) := (⟨"NeedMachineModel", "number", "()I"⟩, prog_10_method_33_code, 1, (some .int), [])
def zm_m102 : MethodName × ByteArray × Nat × Option FieldType × List (Nat × Nat × Nat × Nat) := (⟨"NeedMachineModel", "head", "()I"⟩, prog_10_method_35_code, 1, (some .int), [])
def zm_m103 : MethodName × ByteArray × Nat × Option FieldType × List (Nat × Nat × Nat × Nat) := (⟨"NeedMachineModel", "side", "(Z)Z"⟩, prog_10_method_34_code, 3, (some .boolean), [])
def zm_m104 : MethodName × ByteArray × Nat × Option FieldType × List (Nat × Nat × Nat × Nat) := (⟨"NeedMachineModel", "tail", "()I"⟩, prog_10_method_36_code, 1, (some .int), [])
def zm_m105 : MethodName × ByteArray × Nat × Option FieldType × List (Nat × Nat × Nat × Nat) := (⟨"NeedMachineModel", "remove", "(I)V"⟩, prog_10_method_37_code, 2, none, [])
def zm_m106 : MethodName × ByteArray × Nat × Option FieldType × List (Nat × Nat × Nat × Nat) := (⟨"NeedMachineModel", "count", "(I)I"⟩, prog_10_method_38_code, 4, (some .int), [])
def zm_m107 : MethodName × ByteArray × Nat × Option FieldType × List (Nat × Nat × Nat × Nat) := (⟨"java/util/ArrayList", "size", "()I"⟩, prog_26_method_8_code, 1, (some .int), [])
def zm_m108 : MethodName × ByteArray × Nat × Option FieldType × List (Nat × Nat × Nat × Nat) := (⟨"java/util/ArrayList", "get", "(I)Ljava/lang/Object;"⟩, prog_26_method_20_code, 2, (some (.object "java/lang/Object")), [])
def zm_m109 : MethodName × ByteArray × Nat × Option FieldType × List (Nat × Nat × Nat × Nat) := (⟨"java/util/ArrayList", "elementData", "(I)Ljava/lang/Object;"⟩, prog_26_method_18_code, 2, (some (.object "java/lang/Object")), [])
def zm_m110 : MethodName × ByteArray × Nat × Option FieldType × List (Nat × Nat × Nat × Nat) := (⟨"java/util/ArrayList", "add", "(Ljava/lang/Object;)Z"⟩, prog_26_method_25_code, 2, (some .boolean), [])
def zm_m111 : MethodName × ByteArray × Nat × Option FieldType × List (Nat × Nat × Nat × Nat) := (⟨"java/util/ArrayList", "add", "(Ljava/lang/Object;[Ljava/lang/Object;I)V"⟩, prog_26_method_24_code, 4, none, [])
def zm_m112 : MethodName × ByteArray × Nat × Option FieldType × List (Nat × Nat × Nat × Nat) := (⟨"java/util/ArrayList", "grow", "()[Ljava/lang/Object;"⟩, prog_26_method_7_code, 1, (some (.array (.object "java/lang/Object"))), [])
def zm_m113 : MethodName × ByteArray × Nat × Option FieldType × List (Nat × Nat × Nat × Nat) := (⟨"java/util/ArrayList", "grow", "(I)[Ljava/lang/Object;"⟩, prog_26_method_6_code, 4, (some (.array (.object "java/lang/Object"))), [])
def zm_m114 : MethodName × ByteArray × Nat × Option FieldType × List (Nat × Nat × Nat × Nat) := (⟨"java/util/Objects", "checkIndex", "(II)I"⟩, prog_31_method_17_code, 2, (some .int), [])
def zm_m115 : MethodName × ByteArray × Nat × Option FieldType × List (Nat × Nat × Nat × Nat) := (⟨"jdk/internal/util/Preconditions", "checkIndex", "(IILjava/util/function/BiFunction;)I"⟩, prog_35_method_11_code, 3, (some .int), [])
def zm_m116 : MethodName × ByteArray × Nat × Option FieldType × List (Nat × Nat × Nat × Nat) := (⟨"jdk/internal/util/ArraysSupport", "newLength", "(III)I"⟩, prog_34_method_27_code, 4, (some .int), [])
def zm_m117 : MethodName × ByteArray × Nat × Option FieldType × List (Nat × Nat × Nat × Nat) := (⟨"java/util/Arrays", "copyOf", "([Ljava/lang/Object;I)[Ljava/lang/Object;"⟩, prog_27_method_119_code, 2, (some (.array (.object "java/lang/Object"))), [])
def zm_m118 : MethodName × ByteArray × Nat × Option FieldType × List (Nat × Nat × Nat × Nat) := (⟨"java/util/Arrays", "copyOf", "([Ljava/lang/Object;ILjava/lang/Class;)[Ljava/lang/Object;"⟩, prog_27_method_120_code, 4, (some (.array (.object "java/lang/Object"))), [])
def zm_md (mi : Nat) : MethodName × ByteArray × Nat × Option FieldType × List (Nat × Nat × Nat × Nat) := cond (Nat.blt mi 59) (cond (Nat.blt mi 29) (cond (Nat.blt mi 14) (cond (Nat.blt mi 7) (cond (Nat.blt mi 3) (cond (Nat.blt mi 1) (zm_m0) (cond (Nat.blt mi 2) (zm_m1) (zm_m2))) (cond (Nat.blt mi 5) (cond (Nat.blt mi 4) (zm_m3) (zm_m4)) (cond (Nat.blt mi 6) (zm_m5) (zm_m6)))) (cond (Nat.blt mi 10) (cond (Nat.blt mi 8) (zm_m7) (cond (Nat.blt mi 9) (zm_m8) (zm_m9))) (cond (Nat.blt mi 12) (cond (Nat.blt mi 11) (zm_m10) (zm_m11)) (cond (Nat.blt mi 13) (zm_m12) (zm_m13))))) (cond (Nat.blt mi 21) (cond (Nat.blt mi 17) (cond (Nat.blt mi 15) (zm_m14) (cond (Nat.blt mi 16) (zm_m15) (zm_m16))) (cond (Nat.blt mi 19) (cond (Nat.blt mi 18) (zm_m17) (zm_m18)) (cond (Nat.blt mi 20) (zm_m19) (zm_m20)))) (cond (Nat.blt mi 25) (cond (Nat.blt mi 23) (cond (Nat.blt mi 22) (zm_m21) (zm_m22)) (cond (Nat.blt mi 24) (zm_m23) (zm_m24))) (cond (Nat.blt mi 27) (cond (Nat.blt mi 26) (zm_m25) (zm_m26)) (cond (Nat.blt mi 28) (zm_m27) (zm_m28)))))) (cond (Nat.blt mi 44) (cond (Nat.blt mi 36) (cond (Nat.blt mi 32) (cond (Nat.blt mi 30) (zm_m29) (cond (Nat.blt mi 31) (zm_m30) (zm_m31))) (cond (Nat.blt mi 34) (cond (Nat.blt mi 33) (zm_m32) (zm_m33)) (cond (Nat.blt mi 35) (zm_m34) (zm_m35)))) (cond (Nat.blt mi 40) (cond (Nat.blt mi 38) (cond (Nat.blt mi 37) (zm_m36) (zm_m37)) (cond (Nat.blt mi 39) (zm_m38) (zm_m39))) (cond (Nat.blt mi 42) (cond (Nat.blt mi 41) (zm_m40) (zm_m41)) (cond (Nat.blt mi 43) (zm_m42) (zm_m43))))) (cond (Nat.blt mi 51) (cond (Nat.blt mi 47) (cond (Nat.blt mi 45) (zm_m44) (cond (Nat.blt mi 46) (zm_m45) (zm_m46))) (cond (Nat.blt mi 49) (cond (Nat.blt mi 48) (zm_m47) (zm_m48)) (cond (Nat.blt mi 50) (zm_m49) (zm_m50)))) (cond (Nat.blt mi 55) (cond (Nat.blt mi 53) (cond (Nat.blt mi 52) (zm_m51) (zm_m52)) (cond (Nat.blt mi 54) (zm_m53) (zm_m54))) (cond (Nat.blt mi 57) (cond (Nat.blt mi 56) (zm_m55) (zm_m56)) (cond (Nat.blt mi 58) (zm_m57) (zm_m58))))))) (cond (Nat.blt mi 89) (cond (Nat.blt mi 74) (cond (Nat.blt mi 66) (cond (Nat.blt mi 62) (cond (Nat.blt mi 60) (zm_m59) (cond (Nat.blt mi 61) (zm_m60) (zm_m61))) (cond (Nat.blt mi 64) (cond (Nat.blt mi 63) (zm_m62) (zm_m63)) (cond (Nat.blt mi 65) (zm_m64) (zm_m65)))) (cond (Nat.blt mi 70) (cond (Nat.blt mi 68) (cond (Nat.blt mi 67) (zm_m66) (zm_m67)) (cond (Nat.blt mi 69) (zm_m68) (zm_m69))) (cond (Nat.blt mi 72) (cond (Nat.blt mi 71) (zm_m70) (zm_m71)) (cond (Nat.blt mi 73) (zm_m72) (zm_m73))))) (cond (Nat.blt mi 81) (cond (Nat.blt mi 77) (cond (Nat.blt mi 75) (zm_m74) (cond (Nat.blt mi 76) (zm_m75) (zm_m76))) (cond (Nat.blt mi 79) (cond (Nat.blt mi 78) (zm_m77) (zm_m78)) (cond (Nat.blt mi 80) (zm_m79) (zm_m80)))) (cond (Nat.blt mi 85) (cond (Nat.blt mi 83) (cond (Nat.blt mi 82) (zm_m81) (zm_m82)) (cond (Nat.blt mi 84) (zm_m83) (zm_m84))) (cond (Nat.blt mi 87) (cond (Nat.blt mi 86) (zm_m85) (zm_m86)) (cond (Nat.blt mi 88) (zm_m87) (zm_m88)))))) (cond (Nat.blt mi 104) (cond (Nat.blt mi 96) (cond (Nat.blt mi 92) (cond (Nat.blt mi 90) (zm_m89) (cond (Nat.blt mi 91) (zm_m90) (zm_m91))) (cond (Nat.blt mi 94) (cond (Nat.blt mi 93) (zm_m92) (zm_m93)) (cond (Nat.blt mi 95) (zm_m94) (zm_m95)))) (cond (Nat.blt mi 100) (cond (Nat.blt mi 98) (cond (Nat.blt mi 97) (zm_m96) (zm_m97)) (cond (Nat.blt mi 99) (zm_m98) (zm_m99))) (cond (Nat.blt mi 102) (cond (Nat.blt mi 101) (zm_m100) (zm_m101)) (cond (Nat.blt mi 103) (zm_m102) (zm_m103))))) (cond (Nat.blt mi 111) (cond (Nat.blt mi 107) (cond (Nat.blt mi 105) (zm_m104) (cond (Nat.blt mi 106) (zm_m105) (zm_m106))) (cond (Nat.blt mi 109) (cond (Nat.blt mi 108) (zm_m107) (zm_m108)) (cond (Nat.blt mi 110) (zm_m109) (zm_m110)))) (cond (Nat.blt mi 115) (cond (Nat.blt mi 113) (cond (Nat.blt mi 112) (zm_m111) (zm_m112)) (cond (Nat.blt mi 114) (zm_m113) (zm_m114))) (cond (Nat.blt mi 117) (cond (Nat.blt mi 116) (zm_m115) (zm_m116)) (cond (Nat.blt mi 118) (zm_m117) (zm_m118)))))))
def zm_mn (mi : Nat) : MethodName := (zm_md mi).1
def zm_by (mi : Nat) : ByteArray := (zm_md mi).2.1
def zm_nl (mi : Nat) : Nat := (zm_md mi).2.2.1
def zm_rt (mi : Nat) : Option FieldType := (zm_md mi).2.2.2.1
def zm_hd (mi : Nat) : List (Nat × Nat × Nat × Nat) := (zm_md mi).2.2.2.2
abbrev zm_I : Type := Instr × Nat × Nat × Int
def zm_lk (l : List (Nat × zm_I)) (pc : Nat) : Option zm_I := match l with
  | [] => none
  | q :: r => if Nat.beq q.1 pc = true then some q.2 else zm_lk r pc
/-- NeedMachineLaw.law([I)Z -/
def zm_c0_0 : List (Nat × zm_I) := [(0, .new 8, 0, 0, 0), (3, .dup, 0, 0, 0), (4, .invokespecial 43, 0, 0, 0), (7, .astore_n 1, 0, 0, 0), (8, .new 44, 5, 0, 0), (11, .dup, 0, 0, 0)]
def zm_c0_1 : List (Nat × zm_I) := [(12, .invokespecial 46, 0, 0, 0), (15, .astore_n 2, 0, 0, 0), (16, .iconst 1, 0, 0, 0), (17, .newarray .long, 2, 0, 0), (19, .astore_n 3, 0, 0, 0), (20, .iconst 0, 0, 0, 0)]
def zm_c0_2 : List (Nat × zm_I) := [(21, .istore 4, 0, 0, 0), (23, .iload 4, 0, 0, 0), (25, .aload_n 0, 0, 0, 0), (26, .arraylength, 0, 0, 0), (27, .iconst 3, 0, 0, 0), (28, .isub, 0, 0, 0)]
def zm_c0_3 : List (Nat × zm_I) := [(29, .if_icmp .gt 251, 0, 0, 0), (32, .aload_n 0, 0, 0, 0), (33, .iload 4, 0, 0, 0), (35, .iaload, 0, 0, 0), (36, .bipush 7, 0, 0, 0), (38, .iand, 0, 0, 0)]
def zm_c0_4 : List (Nat × zm_I) := [(39, .tableswitch 235 0 7 #[45, 105, 121, 137, 153, 169, 185, 210], 45, 0, 0), (84, .aload_n 1, 0, 0, 0), (85, .aload_n 0, 0, 0, 0), (86, .iload 4, 0, 0, 0), (88, .iconst 1, 0, 0, 0), (89, .iadd, 0, 0, 0)]
def zm_c0_5 : List (Nat × zm_I) := [(90, .iaload, 0, 0, 0), (91, .i2l, 0, 0, 0), (92, .bipush 32, 0, 0, 0), (94, .lshl, 0, 0, 0), (95, .aload_n 0, 0, 0, 0), (96, .iload 4, 0, 0, 0)]
def zm_c0_6 : List (Nat × zm_I) := [(98, .iconst 2, 0, 0, 0), (99, .iadd, 0, 0, 0), (100, .iaload, 0, 0, 0), (101, .i2l, 0, 0, 0), (102, .ldc2_w 47, 0, 0, 4294967295), (105, .land, 0, 0, 0)]
def zm_c0_7 : List (Nat × zm_I) := [(106, .lor, 0, 0, 0), (107, .aload_n 3, 0, 0, 0), (108, .invokestatic 49, 0, 0, 0), (111, .istore 5, 0, 0, 0), (113, .aload_n 2, 0, 0, 0), (114, .aload_n 0, 0, 0, 0)]
def zm_c0_8 : List (Nat × zm_I) := [(115, .iload 4, 0, 0, 0), (117, .iconst 1, 0, 0, 0), (118, .iadd, 0, 0, 0), (119, .iaload, 0, 0, 0), (120, .i2l, 0, 0, 0), (121, .bipush 32, 0, 0, 0)]
def zm_c0_9 : List (Nat × zm_I) := [(123, .lshl, 0, 0, 0), (124, .aload_n 0, 0, 0, 0), (125, .iload 4, 0, 0, 0), (127, .iconst 2, 0, 0, 0), (128, .iadd, 0, 0, 0), (129, .iaload, 0, 0, 0)]
def zm_c0_10 : List (Nat × zm_I) := [(130, .i2l, 0, 0, 0), (131, .ldc2_w 47, 0, 0, 4294967295), (134, .land, 0, 0, 0), (135, .lor, 0, 0, 0), (136, .invokevirtual 54, 0, 0, 0), (139, .istore 6, 0, 0, 0)]
def zm_c0_11 : List (Nat × zm_I) := [(141, .goto 133, 0, 0, 0), (144, .aload_n 1, 0, 0, 0), (145, .aload_n 3, 0, 0, 0), (146, .invokestatic 55, 0, 0, 0), (149, .istore 5, 0, 0, 0), (151, .aload_n 2, 0, 0, 0)]
def zm_c0_12 : List (Nat × zm_I) := [(152, .invokevirtual 58, 0, 0, 0), (155, .istore 6, 0, 0, 0), (157, .goto 117, 0, 0, 0), (160, .aload_n 1, 0, 0, 0), (161, .aload_n 3, 0, 0, 0), (162, .invokestatic 59, 0, 0, 0)]
def zm_c0_13 : List (Nat × zm_I) := [(165, .istore 5, 0, 0, 0), (167, .aload_n 2, 0, 0, 0), (168, .invokevirtual 61, 0, 0, 0), (171, .istore 6, 0, 0, 0), (173, .goto 101, 0, 0, 0), (176, .aload_n 1, 0, 0, 0)]
def zm_c0_14 : List (Nat × zm_I) := [(177, .aload_n 3, 0, 0, 0), (178, .invokestatic 62, 0, 0, 0), (181, .istore 5, 0, 0, 0), (183, .aload_n 2, 0, 0, 0), (184, .invokevirtual 64, 0, 0, 0), (187, .istore 6, 0, 0, 0)]
def zm_c0_15 : List (Nat × zm_I) := [(189, .goto 85, 0, 0, 0), (192, .aload_n 1, 0, 0, 0), (193, .aload_n 3, 0, 0, 0), (194, .invokestatic 65, 0, 0, 0), (197, .istore 5, 0, 0, 0), (199, .aload_n 2, 0, 0, 0)]
def zm_c0_16 : List (Nat × zm_I) := [(200, .invokevirtual 67, 0, 0, 0), (203, .istore 6, 0, 0, 0), (205, .goto 69, 0, 0, 0), (208, .aload_n 1, 0, 0, 0), (209, .aload_n 3, 0, 0, 0), (210, .invokestatic 68, 0, 0, 0)]
def zm_c0_17 : List (Nat × zm_I) := [(213, .istore 5, 0, 0, 0), (215, .aload_n 2, 0, 0, 0), (216, .invokevirtual 70, 0, 0, 0), (219, .istore 6, 0, 0, 0), (221, .goto 53, 0, 0, 0), (224, .aload_n 1, 0, 0, 0)]
def zm_c0_18 : List (Nat × zm_I) := [(225, .aload_n 0, 0, 0, 0), (226, .iload 4, 0, 0, 0), (228, .iconst 1, 0, 0, 0), (229, .iadd, 0, 0, 0), (230, .iaload, 0, 0, 0), (231, .invokestatic 71, 0, 0, 0)]
def zm_c0_19 : List (Nat × zm_I) := [(234, .istore 5, 0, 0, 0), (236, .aload_n 2, 0, 0, 0), (237, .aload_n 0, 0, 0, 0), (238, .iload 4, 0, 0, 0), (240, .iconst 1, 0, 0, 0), (241, .iadd, 0, 0, 0)]
def zm_c0_20 : List (Nat × zm_I) := [(242, .iaload, 0, 0, 0), (243, .invokevirtual 74, 0, 0, 0), (246, .goto 28, 0, 0, 0), (249, .aload_n 1, 0, 0, 0), (250, .aload_n 0, 0, 0, 0), (251, .iload 4, 0, 0, 0)]
def zm_c0_21 : List (Nat × zm_I) := [(253, .iconst 1, 0, 0, 0), (254, .iadd, 0, 0, 0), (255, .iaload, 0, 0, 0), (256, .invokevirtual 75, 0, 0, 0), (259, .aload_n 2, 0, 0, 0), (260, .aload_n 0, 0, 0, 0)]
def zm_c0_22 : List (Nat × zm_I) := [(261, .iload 4, 0, 0, 0), (263, .iconst 1, 0, 0, 0), (264, .iadd, 0, 0, 0), (265, .iaload, 0, 0, 0), (266, .invokevirtual 79, 0, 0, 0), (269, .if_icmp .eq 5, 0, 0, 0)]
def zm_c0_23 : List (Nat × zm_I) := [(272, .iconst 0, 0, 0, 0), (273, .ireturn, 0, 0, 0), (274, .iinc 4 3, 0, 0, 0), (277, .goto (-254), 0, 0, 0), (280, .iconst 1, 0, 0, 0), (281, .ireturn, 0, 0, 0)]
def zm_g0 (pc : Nat) : Option zm_I := cond (Nat.blt pc 152) (cond (Nat.blt pc 98) (cond (Nat.blt pc 29) (cond (Nat.blt pc 12) (zm_lk zm_c0_0 pc) (cond (Nat.blt pc 21) (zm_lk zm_c0_1 pc) (zm_lk zm_c0_2 pc))) (cond (Nat.blt pc 39) (zm_lk zm_c0_3 pc) (cond (Nat.blt pc 90) (zm_lk zm_c0_4 pc) (zm_lk zm_c0_5 pc)))) (cond (Nat.blt pc 123) (cond (Nat.blt pc 106) (zm_lk zm_c0_6 pc) (cond (Nat.blt pc 115) (zm_lk zm_c0_7 pc) (zm_lk zm_c0_8 pc))) (cond (Nat.blt pc 130) (zm_lk zm_c0_9 pc) (cond (Nat.blt pc 141) (zm_lk zm_c0_10 pc) (zm_lk zm_c0_11 pc))))) (cond (Nat.blt pc 225) (cond (Nat.blt pc 189) (cond (Nat.blt pc 165) (zm_lk zm_c0_12 pc) (cond (Nat.blt pc 177) (zm_lk zm_c0_13 pc) (zm_lk zm_c0_14 pc))) (cond (Nat.blt pc 200) (zm_lk zm_c0_15 pc) (cond (Nat.blt pc 213) (zm_lk zm_c0_16 pc) (zm_lk zm_c0_17 pc)))) (cond (Nat.blt pc 253) (cond (Nat.blt pc 234) (zm_lk zm_c0_18 pc) (cond (Nat.blt pc 242) (zm_lk zm_c0_19 pc) (zm_lk zm_c0_20 pc))) (cond (Nat.blt pc 261) (zm_lk zm_c0_21 pc) (cond (Nat.blt pc 272) (zm_lk zm_c0_22 pc) (zm_lk zm_c0_23 pc)))))
/-- NeedMachine.<init>()V -/
def zm_c1_0 : List (Nat × zm_I) := [(0, .aload_n 0, 0, 0, 0), (1, .invokespecial 1, 0, 0, 0), (4, .aload_n 0, 0, 0, 0), (5, .new 7, 1, 0, 0), (8, .dup, 0, 0, 0), (9, .invokespecial 9, 0, 0, 0)]
def zm_c1_1 : List (Nat × zm_I) := [(12, .putfield 10, 0, 0, 0), (15, .aload_n 0, 0, 0, 0), (16, .new 16, 2, 0, 0), (19, .dup, 0, 0, 0), (20, .invokespecial 18, 0, 0, 0), (23, .putfield 19, 0, 1, 0)]
def zm_c1_2 : List (Nat × zm_I) := [(26, .aload_n 0, 0, 0, 0), (27, .bipush 6, 0, 0, 0), (29, .anewarray 23, 4, 0, 0), (32, .putfield 25, 0, 2, 0), (35, .return_, 0, 0, 0)]
def zm_g1 (pc : Nat) : Option zm_I := cond (Nat.blt pc 12) (zm_lk zm_c1_0 pc) (cond (Nat.blt pc 26) (zm_lk zm_c1_1 pc) (zm_lk zm_c1_2 pc))
/-- java/lang/Object.<init>()V -/
def zm_c2_0 : List (Nat × zm_I) := [(0, .return_, 0, 0, 0)]
def zm_g2 (pc : Nat) : Option zm_I := zm_lk zm_c2_0 pc
/-- NeedMachine$Text.<init>()V -/
def zm_c3_0 : List (Nat × zm_I) := [(0, .aload_n 0, 0, 0, 0), (1, .invokespecial 3, 0, 0, 0), (4, .aload_n 0, 0, 0, 0), (5, .iconst (-1), 0, 0, 0), (6, .putfield 9, 1, 1, 0), (9, .aload_n 0, 0, 0, 0)]
def zm_c3_1 : List (Nat × zm_I) := [(10, .bipush 40, 0, 0, 0), (12, .newarray .char, 1, 0, 0), (14, .putfield 15, 1, 2, 0), (17, .aload_n 0, 0, 0, 0), (18, .iconst 4, 0, 0, 0), (19, .newarray .char, 1, 0, 0)]
def zm_c3_2 : List (Nat × zm_I) := [(21, .putfield 19, 1, 3, 0), (24, .return_, 0, 0, 0)]
def zm_g3 (pc : Nat) : Option zm_I := cond (Nat.blt pc 10) (zm_lk zm_c3_0 pc) (cond (Nat.blt pc 21) (zm_lk zm_c3_1 pc) (zm_lk zm_c3_2 pc))
/-- NeedMachine$Store.<init>()V -/
def zm_c4_0 : List (Nat × zm_I) := [(0, .aload_n 0, 0, 0, 0), (1, .invokespecial 3, 0, 0, 0), (4, .aload_n 0, 0, 0, 0), (5, .new 9, 3, 0, 0), (8, .dup, 0, 0, 0), (9, .invokespecial 11, 0, 0, 0)]
def zm_c4_1 : List (Nat × zm_I) := [(12, .putfield 12, 2, 0, 0), (15, .aload_n 0, 0, 0, 0), (16, .getfield 12, 2, 0, 0), (19, .iconst 1, 0, 0, 0), (20, .putfield 18, 3, 0, 0), (23, .aload_n 0, 0, 0, 0)]
def zm_c4_2 : List (Nat × zm_I) := [(24, .new 22, 4, 0, 0), (27, .dup, 0, 0, 0), (28, .invokespecial 24, 0, 0, 0), (31, .putfield 25, 2, 1, 0), (34, .aload_n 0, 0, 0, 0), (35, .new 22, 4, 0, 0)]
def zm_c4_3 : List (Nat × zm_I) := [(38, .dup, 0, 0, 0), (39, .invokespecial 24, 0, 0, 0), (42, .putfield 29, 2, 2, 0), (45, .aload_n 0, 0, 0, 0), (46, .new 22, 4, 0, 0), (49, .dup, 0, 0, 0)]
def zm_c4_4 : List (Nat × zm_I) := [(50, .invokespecial 24, 0, 0, 0), (53, .putfield 32, 2, 3, 0), (56, .return_, 0, 0, 0)]
def zm_g4 (pc : Nat) : Option zm_I := cond (Nat.blt pc 24) (cond (Nat.blt pc 12) (zm_lk zm_c4_0 pc) (zm_lk zm_c4_1 pc)) (cond (Nat.blt pc 38) (zm_lk zm_c4_2 pc) (cond (Nat.blt pc 50) (zm_lk zm_c4_3 pc) (zm_lk zm_c4_4 pc)))
/-- NeedMachine$Value.<init>()V -/
def zm_c5_0 : List (Nat × zm_I) := [(0, .aload_n 0, 0, 0, 0), (1, .invokespecial 1, 0, 0, 0), (4, .return_, 0, 0, 0)]
def zm_g5 (pc : Nat) : Option zm_I := zm_lk zm_c5_0 pc
/-- java/util/ArrayList.<init>()V -/
def zm_c6_0 : List (Nat × zm_I) := [(0, .aload_n 0, 0, 0, 0), (1, .invokespecial 1, 0, 0, 0), (4, .aload_n 0, 0, 0, 0), (5, .getstatic 39, 1, 0, 0), (8, .putfield 9, 4, 0, 0), (11, .return_, 0, 0, 0)]
def zm_g6 (pc : Nat) : Option zm_I := zm_lk zm_c6_0 pc
/-- java/util/AbstractList.<init>()V -/
def zm_c7_0 : List (Nat × zm_I) := [(0, .aload_n 0, 0, 0, 0), (1, .invokespecial 1, 0, 0, 0), (4, .aload_n 0, 0, 0, 0), (5, .iconst 0, 0, 0, 0), (6, .putfield 7, 4, 2, 0), (9, .return_, 0, 0, 0)]
def zm_g7 (pc : Nat) : Option zm_I := zm_lk zm_c7_0 pc
/-- java/util/AbstractCollection.<init>()V -/
def zm_c8_0 : List (Nat × zm_I) := [(0, .aload_n 0, 0, 0, 0), (1, .invokespecial 1, 0, 0, 0), (4, .return_, 0, 0, 0)]
def zm_g8 (pc : Nat) : Option zm_I := zm_lk zm_c8_0 pc
/-- NeedMachine.count(I)I -/
def zm_c9_0 : List (Nat × zm_I) := [(0, .iload_n 1, 0, 0, 0), (1, .tableswitch 93 0 7 #[47, 55, 63, 68, 73, 78, 83, 88], 47, 0, 0), (48, .aload_n 0, 0, 0, 0), (49, .getfield 10, 0, 0, 0), (52, .getfield 105, 1, 1, 0), (55, .ireturn, 0, 0, 0)]
def zm_c9_1 : List (Nat × zm_I) := [(56, .aload_n 0, 0, 0, 0), (57, .getfield 10, 0, 0, 0), (60, .getfield 108, 1, 0, 0), (63, .ireturn, 0, 0, 0), (64, .aload_n 0, 0, 0, 0), (65, .invokevirtual 111, 0, 0, 0)]
def zm_c9_2 : List (Nat × zm_I) := [(68, .ireturn, 0, 0, 0), (69, .aload_n 0, 0, 0, 0), (70, .getfield 55, 0, 4, 0), (73, .ireturn, 0, 0, 0), (74, .aload_n 0, 0, 0, 0), (75, .getfield 115, 0, 5, 0)]
def zm_c9_3 : List (Nat × zm_I) := [(78, .ireturn, 0, 0, 0), (79, .aload_n 0, 0, 0, 0), (80, .getfield 118, 0, 6, 0), (83, .ireturn, 0, 0, 0), (84, .aload_n 0, 0, 0, 0), (85, .getfield 121, 0, 7, 0)]
def zm_c9_4 : List (Nat × zm_I) := [(88, .ireturn, 0, 0, 0), (89, .aload_n 0, 0, 0, 0), (90, .getfield 58, 0, 8, 0), (93, .ireturn, 0, 0, 0), (94, .iconst (-1), 0, 0, 0), (95, .ireturn, 0, 0, 0)]
def zm_g9 (pc : Nat) : Option zm_I := cond (Nat.blt pc 68) (cond (Nat.blt pc 56) (zm_lk zm_c9_0 pc) (zm_lk zm_c9_1 pc)) (cond (Nat.blt pc 78) (zm_lk zm_c9_2 pc) (cond (Nat.blt pc 88) (zm_lk zm_c9_3 pc) (zm_lk zm_c9_4 pc)))
/-- NeedMachine.countDefinitions()I -/
def zm_c10_0 : List (Nat × zm_I) := [(0, .iconst 0, 0, 0, 0), (1, .istore_n 1, 0, 0, 0), (2, .aload_n 0, 0, 0, 0), (3, .getfield 25, 0, 2, 0), (6, .astore_n 2, 0, 0, 0), (7, .aload_n 2, 0, 0, 0)]
def zm_c10_1 : List (Nat × zm_I) := [(8, .arraylength, 0, 0, 0), (9, .istore_n 3, 0, 0, 0), (10, .iconst 0, 0, 0, 0), (11, .istore 4, 0, 0, 0), (13, .iload 4, 0, 0, 0), (15, .iload_n 3, 0, 0, 0)]
def zm_c10_2 : List (Nat × zm_I) := [(16, .if_icmp .ge 23, 0, 0, 0), (19, .aload_n 2, 0, 0, 0), (20, .iload 4, 0, 0, 0), (22, .aaload, 0, 0, 0), (23, .astore 5, 0, 0, 0), (25, .aload 5, 0, 0, 0)]
def zm_c10_3 : List (Nat × zm_I) := [(27, .ifnull 6, 0, 0, 0), (30, .iinc 1 1, 0, 0, 0), (33, .iinc 4 1, 0, 0, 0), (36, .goto (-23), 0, 0, 0), (39, .iload_n 1, 0, 0, 0), (40, .ireturn, 0, 0, 0)]
def zm_g10 (pc : Nat) : Option zm_I := cond (Nat.blt pc 16) (cond (Nat.blt pc 8) (zm_lk zm_c10_0 pc) (zm_lk zm_c10_1 pc)) (cond (Nat.blt pc 27) (zm_lk zm_c10_2 pc) (zm_lk zm_c10_3 pc))
/-- NeedMachineLaw.type(LNeedMachine;J[J)I -/
def zm_c11_0 : List (Nat × zm_I) := [(0, .aload_n 3, 0, 0, 0), (1, .iconst 0, 0, 0, 0), (2, .aload_n 0, 0, 0, 0), (3, .lload_n 1, 0, 0, 0), (4, .invokevirtual 7, 0, 0, 0), (7, .i2l, 0, 0, 0)]
def zm_c11_1 : List (Nat × zm_I) := [(8, .lastore, 0, 0, 0), (9, .goto 11, 0, 0, 0), (12, .astore 4, 0, 0, 0), (14, .iconst 1, 0, 0, 0), (15, .ireturn, 0, 0, 0), (16, .astore 4, 0, 0, 0)]
def zm_c11_2 : List (Nat × zm_I) := [(18, .iconst 2, 0, 0, 0), (19, .ireturn, 0, 0, 0), (20, .iconst 0, 0, 0, 0), (21, .ireturn, 0, 0, 0)]
def zm_g11 (pc : Nat) : Option zm_I := cond (Nat.blt pc 8) (zm_lk zm_c11_0 pc) (cond (Nat.blt pc 18) (zm_lk zm_c11_1 pc) (zm_lk zm_c11_2 pc))
/-- NeedMachine.type(J)I -/
def zm_c12_0 : List (Nat × zm_I) := [(0, .aload_n 0, 0, 0, 0), (1, .getfield 10, 0, 0, 0), (4, .lload_n 1, 0, 0, 0), (5, .invokevirtual 29, 0, 0, 0), (8, .ireturn, 0, 0, 0)]
def zm_g12 (pc : Nat) : Option zm_I := zm_lk zm_c12_0 pc
/-- NeedMachine$Text.add(J)I -/
def zm_c13_0 : List (Nat × zm_I) := [(0, .iconst 0, 0, 0, 0), (1, .istore_n 3, 0, 0, 0), (2, .bipush 56, 0, 0, 0), (4, .istore 4, 0, 0, 0), (6, .iload 4, 0, 0, 0), (8, .ifCond .lt 59, 0, 0, 0)]
def zm_c13_1 : List (Nat × zm_I) := [(11, .lload_n 1, 0, 0, 0), (12, .iload 4, 0, 0, 0), (14, .invokestatic 22, 0, 0, 0), (17, .istore 5, 0, 0, 0), (19, .iload 5, 0, 0, 0), (21, .ifCond .eq 27, 0, 0, 0)]
def zm_c13_2 : List (Nat × zm_I) := [(24, .iload 5, 0, 0, 0), (26, .bipush 33, 0, 0, 0), (28, .if_icmp .lt 10, 0, 0, 0), (31, .iload 5, 0, 0, 0), (33, .bipush 126, 0, 0, 0), (35, .if_icmp .le 13, 0, 0, 0)]
def zm_c13_3 : List (Nat × zm_I) := [(48, .iload_n 3, 0, 0, 0), (49, .iload 5, 0, 0, 0), (51, .ifCond .eq 7, 0, 0, 0), (54, .iconst 1, 0, 0, 0), (55, .goto 4, 0, 0, 0), (58, .iconst 0, 0, 0, 0)]
def zm_c13_4 : List (Nat × zm_I) := [(59, .iadd, 0, 0, 0), (60, .istore_n 3, 0, 0, 0), (61, .iinc 4 (-8), 0, 0, 0), (64, .goto (-58), 0, 0, 0), (67, .aload_n 0, 0, 0, 0), (68, .getfield 33, 1, 0, 0)]
def zm_c13_5 : List (Nat × zm_I) := [(71, .iload_n 3, 0, 0, 0), (72, .iadd, 0, 0, 0), (73, .bipush 40, 0, 0, 0), (75, .if_icmp .le 13, 0, 0, 0), (88, .bipush 56, 0, 0, 0), (90, .istore 4, 0, 0, 0)]
def zm_c13_6 : List (Nat × zm_I) := [(92, .iload 4, 0, 0, 0), (94, .ifCond .lt 44, 0, 0, 0), (97, .lload_n 1, 0, 0, 0), (98, .iload 4, 0, 0, 0), (100, .invokestatic 22, 0, 0, 0), (103, .istore 5, 0, 0, 0)]
def zm_c13_7 : List (Nat × zm_I) := [(105, .iload 5, 0, 0, 0), (107, .ifCond .eq 25, 0, 0, 0), (110, .aload_n 0, 0, 0, 0), (111, .getfield 15, 1, 2, 0), (114, .aload_n 0, 0, 0, 0), (115, .getfield 33, 1, 0, 0)]
def zm_c13_8 : List (Nat × zm_I) := [(118, .iload 5, 0, 0, 0), (120, .i2c, 0, 0, 0), (121, .castore, 0, 0, 0), (122, .aload_n 0, 0, 0, 0), (123, .dup, 0, 0, 0), (124, .getfield 33, 1, 0, 0)]
def zm_c13_9 : List (Nat × zm_I) := [(127, .iconst 1, 0, 0, 0), (128, .iadd, 0, 0, 0), (129, .putfield 33, 1, 0, 0), (132, .iinc 4 (-8), 0, 0, 0), (135, .goto (-43), 0, 0, 0), (138, .aload_n 0, 0, 0, 0)]
def zm_c13_10 : List (Nat × zm_I) := [(139, .getfield 33, 1, 0, 0), (142, .ireturn, 0, 0, 0)]
def zm_g13 (pc : Nat) : Option zm_I := cond (Nat.blt pc 71) (cond (Nat.blt pc 24) (cond (Nat.blt pc 11) (zm_lk zm_c13_0 pc) (zm_lk zm_c13_1 pc)) (cond (Nat.blt pc 48) (zm_lk zm_c13_2 pc) (cond (Nat.blt pc 59) (zm_lk zm_c13_3 pc) (zm_lk zm_c13_4 pc)))) (cond (Nat.blt pc 118) (cond (Nat.blt pc 92) (zm_lk zm_c13_5 pc) (cond (Nat.blt pc 105) (zm_lk zm_c13_6 pc) (zm_lk zm_c13_7 pc))) (cond (Nat.blt pc 127) (zm_lk zm_c13_8 pc) (cond (Nat.blt pc 139) (zm_lk zm_c13_9 pc) (zm_lk zm_c13_10 pc))))
/-- NeedMachine$Text.byteAt(JI)I -/
def zm_c14_0 : List (Nat × zm_I) := [(0, .lload_n 0, 0, 0, 0), (1, .iload_n 2, 0, 0, 0), (2, .lushr, 0, 0, 0), (3, .l2i, 0, 0, 0), (4, .sipush 255, 0, 0, 0), (7, .iand, 0, 0, 0)]
def zm_c14_1 : List (Nat × zm_I) := [(8, .ireturn, 0, 0, 0)]
def zm_g14 (pc : Nat) : Option zm_I := cond (Nat.blt pc 8) (zm_lk zm_c14_0 pc) (zm_lk zm_c14_1 pc)
/-- NeedMachineLaw.define(LNeedMachine;[J)I -/
def zm_c15_0 : List (Nat × zm_I) := [(0, .aload_n 1, 0, 0, 0), (1, .iconst 0, 0, 0, 0), (2, .aload_n 0, 0, 0, 0), (3, .invokevirtual 17, 0, 0, 0), (6, .i2l, 0, 0, 0), (7, .lastore, 0, 0, 0)]
def zm_c15_1 : List (Nat × zm_I) := [(8, .goto 6, 0, 0, 0), (11, .astore_n 2, 0, 0, 0), (12, .iconst 1, 0, 0, 0), (13, .ireturn, 0, 0, 0), (14, .iconst 0, 0, 0, 0), (15, .ireturn, 0, 0, 0)]
def zm_g15 (pc : Nat) : Option zm_I := cond (Nat.blt pc 8) (zm_lk zm_c15_0 pc) (zm_lk zm_c15_1 pc)
/-- NeedMachine.define()I -/
def zm_c16_0 : List (Nat × zm_I) := [(0, .aload_n 0, 0, 0, 0), (1, .getfield 10, 0, 0, 0), (4, .invokevirtual 33, 0, 0, 0), (7, .astore_n 1, 0, 0, 0), (8, .aload_n 0, 0, 0, 0), (9, .getfield 25, 0, 2, 0)]
def zm_c16_1 : List (Nat × zm_I) := [(12, .aload_n 1, 0, 0, 0), (13, .getfield 37, 6, 0, 0), (16, .aload_n 1, 0, 0, 0), (17, .aastore, 0, 0, 0), (18, .aload_n 1, 0, 0, 0), (19, .getfield 41, 6, 1, 0)]
def zm_c16_2 : List (Nat × zm_I) := [(22, .ireturn, 0, 0, 0)]
def zm_g16 (pc : Nat) : Option zm_I := cond (Nat.blt pc 12) (zm_lk zm_c16_0 pc) (cond (Nat.blt pc 22) (zm_lk zm_c16_1 pc) (zm_lk zm_c16_2 pc))
/-- NeedMachine$Text.readDefinition()LNeedMachine$Definition; -/
def zm_c17_0 : List (Nat × zm_I) := [(0, .aload_n 0, 0, 0, 0), (1, .invokevirtual 41, 0, 0, 0), (4, .aload_n 0, 0, 0, 0), (5, .aload_n 0, 0, 0, 0), (6, .getfield 44, 1, 6, 0), (9, .aload_n 0, 0, 0, 0)]
def zm_c17_1 : List (Nat × zm_I) := [(10, .getfield 47, 1, 5, 0), (13, .if_icmp .ge 22, 0, 0, 0), (16, .aload_n 0, 0, 0, 0), (17, .getfield 15, 1, 2, 0), (20, .aload_n 0, 0, 0, 0), (21, .getfield 44, 1, 6, 0)]
def zm_c17_2 : List (Nat × zm_I) := [(24, .caload, 0, 0, 0), (25, .invokestatic 50, 0, 0, 0), (28, .ifCond .eq 7, 0, 0, 0), (31, .iconst 1, 0, 0, 0), (32, .goto 4, 0, 0, 0), (35, .iconst 0, 0, 0, 0)]
def zm_c17_3 : List (Nat × zm_I) := [(36, .invokevirtual 54, 0, 0, 0), (39, .aload_n 0, 0, 0, 0), (40, .getfield 15, 1, 2, 0), (43, .aload_n 0, 0, 0, 0), (44, .getfield 44, 1, 6, 0), (47, .caload, 0, 0, 0)]
def zm_c17_4 : List (Nat × zm_I) := [(48, .bipush 65, 0, 0, 0), (50, .isub, 0, 0, 0), (51, .istore_n 1, 0, 0, 0), (52, .aload_n 0, 0, 0, 0), (53, .dup, 0, 0, 0), (54, .getfield 44, 1, 6, 0)]
def zm_c17_5 : List (Nat × zm_I) := [(57, .iconst 1, 0, 0, 0), (58, .iadd, 0, 0, 0), (59, .putfield 44, 1, 6, 0), (62, .aload_n 0, 0, 0, 0), (63, .invokevirtual 58, 0, 0, 0), (66, .aload_n 0, 0, 0, 0)]
def zm_c17_6 : List (Nat × zm_I) := [(67, .aload_n 0, 0, 0, 0), (68, .getfield 44, 1, 6, 0), (71, .aload_n 0, 0, 0, 0), (72, .getfield 47, 1, 5, 0), (75, .if_icmp .ge 21, 0, 0, 0), (78, .aload_n 0, 0, 0, 0)]
def zm_c17_7 : List (Nat × zm_I) := [(79, .getfield 15, 1, 2, 0), (82, .aload_n 0, 0, 0, 0), (83, .getfield 44, 1, 6, 0), (86, .caload, 0, 0, 0), (87, .bipush 61, 0, 0, 0), (89, .if_icmp .ne 7, 0, 0, 0)]
def zm_c17_8 : List (Nat × zm_I) := [(92, .iconst 1, 0, 0, 0), (93, .goto 4, 0, 0, 0), (96, .iconst 0, 0, 0, 0), (97, .invokevirtual 54, 0, 0, 0), (100, .aload_n 0, 0, 0, 0), (101, .dup, 0, 0, 0)]
def zm_c17_9 : List (Nat × zm_I) := [(102, .getfield 44, 1, 6, 0), (105, .iconst 1, 0, 0, 0), (106, .iadd, 0, 0, 0), (107, .putfield 44, 1, 6, 0), (110, .new 61, 6, 0, 0), (113, .dup, 0, 0, 0)]
def zm_c17_10 : List (Nat × zm_I) := [(114, .iload_n 1, 0, 0, 0), (115, .aload_n 0, 0, 0, 0), (116, .getfield 63, 1, 4, 0), (119, .aload_n 0, 0, 0, 0), (120, .invokevirtual 66, 0, 0, 0), (123, .invokespecial 70, 0, 0, 0)]
def zm_c17_11 : List (Nat × zm_I) := [(126, .areturn, 0, 0, 0)]
def zm_g17 (pc : Nat) : Option zm_I := cond (Nat.blt pc 67) (cond (Nat.blt pc 36) (cond (Nat.blt pc 10) (zm_lk zm_c17_0 pc) (cond (Nat.blt pc 24) (zm_lk zm_c17_1 pc) (zm_lk zm_c17_2 pc))) (cond (Nat.blt pc 48) (zm_lk zm_c17_3 pc) (cond (Nat.blt pc 57) (zm_lk zm_c17_4 pc) (zm_lk zm_c17_5 pc)))) (cond (Nat.blt pc 102) (cond (Nat.blt pc 79) (zm_lk zm_c17_6 pc) (cond (Nat.blt pc 92) (zm_lk zm_c17_7 pc) (zm_lk zm_c17_8 pc))) (cond (Nat.blt pc 114) (zm_lk zm_c17_9 pc) (cond (Nat.blt pc 126) (zm_lk zm_c17_10 pc) (zm_lk zm_c17_11 pc))))
/-- NeedMachine$Text.beginReading()V -/
def zm_c18_0 : List (Nat × zm_I) := [(0, .aload_n 0, 0, 0, 0), (1, .aload_n 0, 0, 0, 0), (2, .getfield 33, 1, 0, 0), (5, .putfield 47, 1, 5, 0), (8, .aload_n 0, 0, 0, 0), (9, .iconst 0, 0, 0, 0)]
def zm_c18_1 : List (Nat × zm_I) := [(10, .putfield 33, 1, 0, 0), (13, .aload_n 0, 0, 0, 0), (14, .iconst 0, 0, 0, 0), (15, .putfield 44, 1, 6, 0), (18, .aload_n 0, 0, 0, 0), (19, .iconst 0, 0, 0, 0)]
def zm_c18_2 : List (Nat × zm_I) := [(20, .putfield 63, 1, 4, 0), (23, .return_, 0, 0, 0)]
def zm_g18 (pc : Nat) : Option zm_I := cond (Nat.blt pc 10) (zm_lk zm_c18_0 pc) (cond (Nat.blt pc 20) (zm_lk zm_c18_1 pc) (zm_lk zm_c18_2 pc))
/-- NeedMachine$Text.isName(C)Z -/
def zm_c19_0 : List (Nat × zm_I) := [(0, .iload_n 0, 0, 0, 0), (1, .bipush 65, 0, 0, 0), (3, .if_icmp .lt 13, 0, 0, 0), (6, .iload_n 0, 0, 0, 0), (7, .bipush 71, 0, 0, 0), (9, .if_icmp .ge 7, 0, 0, 0)]
def zm_c19_1 : List (Nat × zm_I) := [(12, .iconst 1, 0, 0, 0), (13, .goto 4, 0, 0, 0), (16, .iconst 0, 0, 0, 0), (17, .ireturn, 0, 0, 0)]
def zm_g19 (pc : Nat) : Option zm_I := cond (Nat.blt pc 12) (zm_lk zm_c19_0 pc) (zm_lk zm_c19_1 pc)
/-- NeedMachine$Text.refuseUnless(Z)V -/
def zm_c20_0 : List (Nat × zm_I) := [(0, .iload_n 1, 0, 0, 0), (1, .ifCond .ne 21, 0, 0, 0), (4, .aload_n 0, 0, 0, 0), (5, .aload_n 0, 0, 0, 0), (6, .getfield 44, 1, 6, 0), (9, .putfield 9, 1, 1, 0)]
def zm_c20_1 : List (Nat × zm_I) := [(22, .return_, 0, 0, 0)]
def zm_g20 (pc : Nat) : Option zm_I := cond (Nat.blt pc 22) (zm_lk zm_c20_0 pc) (zm_lk zm_c20_1 pc)
/-- NeedMachine$Text.readParameters()V -/
def zm_c21_0 : List (Nat × zm_I) := [(0, .aload_n 0, 0, 0, 0), (1, .getfield 63, 1, 4, 0), (4, .iconst 4, 0, 0, 0), (5, .if_icmp .ge 71, 0, 0, 0), (8, .aload_n 0, 0, 0, 0), (9, .getfield 44, 1, 6, 0)]
def zm_c21_1 : List (Nat × zm_I) := [(12, .aload_n 0, 0, 0, 0), (13, .getfield 47, 1, 5, 0), (16, .if_icmp .ge 60, 0, 0, 0), (19, .aload_n 0, 0, 0, 0), (20, .aload_n 0, 0, 0, 0), (21, .getfield 15, 1, 2, 0)]
def zm_c21_2 : List (Nat × zm_I) := [(24, .aload_n 0, 0, 0, 0), (25, .getfield 44, 1, 6, 0), (28, .caload, 0, 0, 0), (29, .invokevirtual 73, 0, 0, 0), (32, .ifCond .eq 44, 0, 0, 0), (35, .aload_n 0, 0, 0, 0)]
def zm_c21_3 : List (Nat × zm_I) := [(36, .getfield 19, 1, 3, 0), (39, .aload_n 0, 0, 0, 0), (40, .getfield 63, 1, 4, 0), (43, .aload_n 0, 0, 0, 0), (44, .getfield 15, 1, 2, 0), (47, .aload_n 0, 0, 0, 0)]
def zm_c21_4 : List (Nat × zm_I) := [(48, .getfield 44, 1, 6, 0), (51, .caload, 0, 0, 0), (52, .castore, 0, 0, 0), (53, .aload_n 0, 0, 0, 0), (54, .dup, 0, 0, 0), (55, .getfield 63, 1, 4, 0)]
def zm_c21_5 : List (Nat × zm_I) := [(58, .iconst 1, 0, 0, 0), (59, .iadd, 0, 0, 0), (60, .putfield 63, 1, 4, 0), (63, .aload_n 0, 0, 0, 0), (64, .dup, 0, 0, 0), (65, .getfield 44, 1, 6, 0)]
def zm_c21_6 : List (Nat × zm_I) := [(68, .iconst 1, 0, 0, 0), (69, .iadd, 0, 0, 0), (70, .putfield 44, 1, 6, 0), (73, .goto (-73), 0, 0, 0), (76, .return_, 0, 0, 0)]
def zm_g21 (pc : Nat) : Option zm_I := cond (Nat.blt pc 36) (cond (Nat.blt pc 12) (zm_lk zm_c21_0 pc) (cond (Nat.blt pc 24) (zm_lk zm_c21_1 pc) (zm_lk zm_c21_2 pc))) (cond (Nat.blt pc 58) (cond (Nat.blt pc 48) (zm_lk zm_c21_3 pc) (zm_lk zm_c21_4 pc)) (cond (Nat.blt pc 68) (zm_lk zm_c21_5 pc) (zm_lk zm_c21_6 pc)))
/-- NeedMachine$Text.isNewParameter(C)Z -/
def zm_c22_0 : List (Nat × zm_I) := [(0, .iload_n 1, 0, 0, 0), (1, .bipush 97, 0, 0, 0), (3, .if_icmp .lt 21, 0, 0, 0), (6, .iload_n 1, 0, 0, 0), (7, .bipush 102, 0, 0, 0), (9, .if_icmp .gt 15, 0, 0, 0)]
def zm_c22_1 : List (Nat × zm_I) := [(12, .aload_n 0, 0, 0, 0), (13, .iload_n 1, 0, 0, 0), (14, .invokevirtual 103, 0, 0, 0), (17, .ifCond .ge 7, 0, 0, 0), (20, .iconst 1, 0, 0, 0), (21, .goto 4, 0, 0, 0)]
def zm_c22_2 : List (Nat × zm_I) := [(24, .iconst 0, 0, 0, 0), (25, .ireturn, 0, 0, 0)]
def zm_g22 (pc : Nat) : Option zm_I := cond (Nat.blt pc 12) (zm_lk zm_c22_0 pc) (cond (Nat.blt pc 24) (zm_lk zm_c22_1 pc) (zm_lk zm_c22_2 pc))
/-- NeedMachine$Text.parameterIndex(C)I -/
def zm_c23_0 : List (Nat × zm_I) := [(0, .iconst 0, 0, 0, 0), (1, .istore_n 2, 0, 0, 0), (2, .iload_n 2, 0, 0, 0), (3, .aload_n 0, 0, 0, 0), (4, .getfield 63, 1, 4, 0), (7, .if_icmp .ge 21, 0, 0, 0)]
def zm_c23_1 : List (Nat × zm_I) := [(10, .aload_n 0, 0, 0, 0), (11, .getfield 19, 1, 3, 0), (14, .iload_n 2, 0, 0, 0), (15, .caload, 0, 0, 0), (16, .iload_n 1, 0, 0, 0), (17, .if_icmp .ne 5, 0, 0, 0)]
def zm_c23_2 : List (Nat × zm_I) := [(20, .iload_n 2, 0, 0, 0), (21, .ireturn, 0, 0, 0), (22, .iinc 2 1, 0, 0, 0), (25, .goto (-23), 0, 0, 0), (28, .iconst (-1), 0, 0, 0), (29, .ireturn, 0, 0, 0)]
def zm_g23 (pc : Nat) : Option zm_I := cond (Nat.blt pc 10) (zm_lk zm_c23_0 pc) (cond (Nat.blt pc 20) (zm_lk zm_c23_1 pc) (zm_lk zm_c23_2 pc))
/-- NeedMachine$Text.readToTheEnd()LNeedMachine$Expression; -/
def zm_c24_0 : List (Nat × zm_I) := [(0, .aload_n 0, 0, 0, 0), (1, .iconst 1, 0, 0, 0), (2, .putfield 76, 1, 7, 0), (5, .aload_n 0, 0, 0, 0), (6, .iconst 1, 0, 0, 0), (7, .invokevirtual 79, 0, 0, 0)]
def zm_c24_1 : List (Nat × zm_I) := [(10, .astore_n 1, 0, 0, 0), (11, .aload_n 0, 0, 0, 0), (12, .aload_n 0, 0, 0, 0), (13, .getfield 44, 1, 6, 0), (16, .aload_n 0, 0, 0, 0), (17, .getfield 47, 1, 5, 0)]
def zm_c24_2 : List (Nat × zm_I) := [(20, .if_icmp .ne 7, 0, 0, 0), (23, .iconst 1, 0, 0, 0), (24, .goto 4, 0, 0, 0), (27, .iconst 0, 0, 0, 0), (28, .invokevirtual 54, 0, 0, 0), (31, .aload_n 1, 0, 0, 0)]
def zm_c24_3 : List (Nat × zm_I) := [(32, .areturn, 0, 0, 0)]
def zm_g24 (pc : Nat) : Option zm_I := cond (Nat.blt pc 20) (cond (Nat.blt pc 10) (zm_lk zm_c24_0 pc) (zm_lk zm_c24_1 pc)) (cond (Nat.blt pc 32) (zm_lk zm_c24_2 pc) (zm_lk zm_c24_3 pc))
/-- NeedMachine$Text.readExpression(I)LNeedMachine$Expression; -/
def zm_c25_0 : List (Nat × zm_I) := [(0, .aload_n 0, 0, 0, 0), (1, .aload_n 0, 0, 0, 0), (2, .getfield 44, 1, 6, 0), (5, .aload_n 0, 0, 0, 0), (6, .getfield 47, 1, 5, 0), (9, .if_icmp .ge 24, 0, 0, 0)]
def zm_c25_1 : List (Nat × zm_I) := [(12, .aload_n 0, 0, 0, 0), (13, .aload_n 0, 0, 0, 0), (14, .getfield 15, 1, 2, 0), (17, .aload_n 0, 0, 0, 0), (18, .getfield 44, 1, 6, 0), (21, .caload, 0, 0, 0)]
def zm_c25_2 : List (Nat × zm_I) := [(22, .iload_n 1, 0, 0, 0), (23, .invokevirtual 83, 0, 0, 0), (26, .ifCond .eq 7, 0, 0, 0), (29, .iconst 1, 0, 0, 0), (30, .goto 4, 0, 0, 0), (33, .iconst 0, 0, 0, 0)]
def zm_c25_3 : List (Nat × zm_I) := [(34, .invokevirtual 54, 0, 0, 0), (37, .aload_n 0, 0, 0, 0), (38, .getfield 15, 1, 2, 0), (41, .aload_n 0, 0, 0, 0), (42, .getfield 44, 1, 6, 0), (45, .caload, 0, 0, 0)]
def zm_c25_4 : List (Nat × zm_I) := [(46, .istore_n 2, 0, 0, 0), (47, .iload_n 2, 0, 0, 0), (48, .invokestatic 87, 0, 0, 0), (51, .istore_n 3, 0, 0, 0), (52, .aload_n 0, 0, 0, 0), (53, .dup, 0, 0, 0)]
def zm_c25_5 : List (Nat × zm_I) := [(54, .getfield 44, 1, 6, 0), (57, .iconst 1, 0, 0, 0), (58, .iadd, 0, 0, 0), (59, .putfield 44, 1, 6, 0), (62, .aload_n 0, 0, 0, 0), (63, .dup, 0, 0, 0)]
def zm_c25_6 : List (Nat × zm_I) := [(64, .getfield 76, 1, 7, 0), (67, .iload_n 3, 0, 0, 0), (68, .iconst 1, 0, 0, 0), (69, .isub, 0, 0, 0), (70, .iadd, 0, 0, 0), (71, .putfield 76, 1, 7, 0)]
def zm_c25_7 : List (Nat × zm_I) := [(74, .iload_n 3, 0, 0, 0), (75, .ifCond .ne 9, 0, 0, 0), (78, .aload_n 0, 0, 0, 0), (79, .iload_n 2, 0, 0, 0), (80, .invokevirtual 91, 0, 0, 0), (83, .areturn, 0, 0, 0)]
def zm_c25_8 : List (Nat × zm_I) := [(84, .aload_n 0, 0, 0, 0), (85, .iload_n 1, 0, 0, 0), (86, .iconst 1, 0, 0, 0), (87, .iadd, 0, 0, 0), (88, .invokevirtual 79, 0, 0, 0), (91, .astore 4, 0, 0, 0)]
def zm_c25_9 : List (Nat × zm_I) := [(93, .iload_n 3, 0, 0, 0), (94, .iconst 1, 0, 0, 0), (95, .if_icmp .le 13, 0, 0, 0), (98, .aload_n 0, 0, 0, 0), (99, .iload_n 1, 0, 0, 0), (100, .iconst 1, 0, 0, 0)]
def zm_c25_10 : List (Nat × zm_I) := [(101, .iadd, 0, 0, 0), (102, .invokevirtual 79, 0, 0, 0), (105, .goto 4, 0, 0, 0), (108, .aconst_null, 0, 0, 0), (109, .astore 5, 0, 0, 0), (111, .iload_n 3, 0, 0, 0)]
def zm_c25_11 : List (Nat × zm_I) := [(112, .iconst 2, 0, 0, 0), (113, .if_icmp .le 13, 0, 0, 0), (116, .aload_n 0, 0, 0, 0), (117, .iload_n 1, 0, 0, 0), (118, .iconst 1, 0, 0, 0), (119, .iadd, 0, 0, 0)]
def zm_c25_12 : List (Nat × zm_I) := [(120, .invokevirtual 79, 0, 0, 0), (123, .goto 4, 0, 0, 0), (126, .aconst_null, 0, 0, 0), (127, .astore 6, 0, 0, 0), (129, .new 95, 7, 0, 0), (132, .dup, 0, 0, 0)]
def zm_c25_13 : List (Nat × zm_I) := [(133, .iload_n 2, 0, 0, 0), (134, .iconst 0, 0, 0, 0), (135, .aload 4, 0, 0, 0), (137, .aload 5, 0, 0, 0), (139, .aload 6, 0, 0, 0), (141, .invokespecial 97, 0, 0, 0)]
def zm_c25_14 : List (Nat × zm_I) := [(144, .areturn, 0, 0, 0)]
def zm_g25 (pc : Nat) : Option zm_I := cond (Nat.blt pc 74) (cond (Nat.blt pc 34) (cond (Nat.blt pc 12) (zm_lk zm_c25_0 pc) (cond (Nat.blt pc 22) (zm_lk zm_c25_1 pc) (zm_lk zm_c25_2 pc))) (cond (Nat.blt pc 54) (cond (Nat.blt pc 46) (zm_lk zm_c25_3 pc) (zm_lk zm_c25_4 pc)) (cond (Nat.blt pc 64) (zm_lk zm_c25_5 pc) (zm_lk zm_c25_6 pc)))) (cond (Nat.blt pc 112) (cond (Nat.blt pc 93) (cond (Nat.blt pc 84) (zm_lk zm_c25_7 pc) (zm_lk zm_c25_8 pc)) (cond (Nat.blt pc 101) (zm_lk zm_c25_9 pc) (zm_lk zm_c25_10 pc))) (cond (Nat.blt pc 133) (cond (Nat.blt pc 120) (zm_lk zm_c25_11 pc) (zm_lk zm_c25_12 pc)) (cond (Nat.blt pc 144) (zm_lk zm_c25_13 pc) (zm_lk zm_c25_14 pc))))
/-- NeedMachine$Text.canStand(CI)Z -/
def zm_c26_0 : List (Nat × zm_I) := [(0, .iload_n 1, 0, 0, 0), (1, .invokestatic 87, 0, 0, 0), (4, .istore_n 3, 0, 0, 0), (5, .iload_n 3, 0, 0, 0), (6, .ifCond .ne 9, 0, 0, 0), (9, .aload_n 0, 0, 0, 0)]
def zm_c26_1 : List (Nat × zm_I) := [(10, .iload_n 1, 0, 0, 0), (11, .invokevirtual 106, 0, 0, 0), (14, .ireturn, 0, 0, 0), (15, .iload_n 2, 0, 0, 0), (16, .bipush 12, 0, 0, 0), (18, .if_icmp .ge 23, 0, 0, 0)]
def zm_c26_2 : List (Nat × zm_I) := [(21, .aload_n 0, 0, 0, 0), (22, .getfield 44, 1, 6, 0), (25, .aload_n 0, 0, 0, 0), (26, .getfield 76, 1, 7, 0), (29, .iadd, 0, 0, 0), (30, .iload_n 3, 0, 0, 0)]
def zm_c26_3 : List (Nat × zm_I) := [(31, .iadd, 0, 0, 0), (32, .bipush 40, 0, 0, 0), (34, .if_icmp .gt 7, 0, 0, 0), (37, .iconst 1, 0, 0, 0), (38, .goto 4, 0, 0, 0), (41, .iconst 0, 0, 0, 0)]
def zm_c26_4 : List (Nat × zm_I) := [(42, .ireturn, 0, 0, 0)]
def zm_g26 (pc : Nat) : Option zm_I := cond (Nat.blt pc 21) (cond (Nat.blt pc 10) (zm_lk zm_c26_0 pc) (zm_lk zm_c26_1 pc)) (cond (Nat.blt pc 31) (zm_lk zm_c26_2 pc) (cond (Nat.blt pc 42) (zm_lk zm_c26_3 pc) (zm_lk zm_c26_4 pc)))
/-- NeedMachine$Text.partsOf(C)I -/
def zm_c27_0 : List (Nat × zm_I) := [(0, .iload_n 0, 0, 0, 0), (1, .lookupswitch 121 #[(37, 117), (42, 117), (43, 117), (45, 117), (46, 117), (47, 117), (58, 117), (60, 117), (61, 117), (63, 119), (104, 115), (116, 115), (122, 115)], 115, 0, 0), (116, .iconst 1, 0, 0, 0), (117, .ireturn, 0, 0, 0), (118, .iconst 2, 0, 0, 0), (119, .ireturn, 0, 0, 0)]
def zm_c27_1 : List (Nat × zm_I) := [(120, .iconst 3, 0, 0, 0), (121, .ireturn, 0, 0, 0), (122, .iconst 0, 0, 0, 0), (123, .ireturn, 0, 0, 0)]
def zm_g27 (pc : Nat) : Option zm_I := cond (Nat.blt pc 120) (zm_lk zm_c27_0 pc) (zm_lk zm_c27_1 pc)
/-- NeedMachine$Text.isLeaf(C)Z -/
def zm_c28_0 : List (Nat × zm_I) := [(0, .iload_n 1, 0, 0, 0), (1, .invokestatic 100, 0, 0, 0), (4, .ifCond .ne 24, 0, 0, 0), (7, .iload_n 1, 0, 0, 0), (8, .invokestatic 50, 0, 0, 0), (11, .ifCond .ne 17, 0, 0, 0)]
def zm_c28_1 : List (Nat × zm_I) := [(14, .iload_n 1, 0, 0, 0), (15, .bipush 110, 0, 0, 0), (17, .if_icmp .eq 11, 0, 0, 0), (20, .aload_n 0, 0, 0, 0), (21, .iload_n 1, 0, 0, 0), (22, .invokevirtual 103, 0, 0, 0)]
def zm_c28_2 : List (Nat × zm_I) := [(25, .ifCond .lt 7, 0, 0, 0), (28, .iconst 1, 0, 0, 0), (29, .goto 4, 0, 0, 0), (32, .iconst 0, 0, 0, 0), (33, .ireturn, 0, 0, 0)]
def zm_g28 (pc : Nat) : Option zm_I := cond (Nat.blt pc 14) (zm_lk zm_c28_0 pc) (cond (Nat.blt pc 25) (zm_lk zm_c28_1 pc) (zm_lk zm_c28_2 pc))
/-- NeedMachine$Text.isDigit(C)Z -/
def zm_c29_0 : List (Nat × zm_I) := [(0, .iload_n 0, 0, 0, 0), (1, .bipush 48, 0, 0, 0), (3, .if_icmp .lt 13, 0, 0, 0), (6, .iload_n 0, 0, 0, 0), (7, .bipush 57, 0, 0, 0), (9, .if_icmp .gt 7, 0, 0, 0)]
def zm_c29_1 : List (Nat × zm_I) := [(12, .iconst 1, 0, 0, 0), (13, .goto 4, 0, 0, 0), (16, .iconst 0, 0, 0, 0), (17, .ireturn, 0, 0, 0)]
def zm_g29 (pc : Nat) : Option zm_I := cond (Nat.blt pc 12) (zm_lk zm_c29_0 pc) (zm_lk zm_c29_1 pc)
/-- NeedMachine$Text.readLeaf(C)LNeedMachine$Expression; -/
def zm_c30_0 : List (Nat × zm_I) := [(0, .iload_n 1, 0, 0, 0), (1, .invokestatic 100, 0, 0, 0), (4, .ifCond .eq 20, 0, 0, 0), (7, .new 95, 7, 0, 0), (10, .dup, 0, 0, 0), (11, .bipush 48, 0, 0, 0)]
def zm_c30_1 : List (Nat × zm_I) := [(13, .iload_n 1, 0, 0, 0), (14, .bipush 48, 0, 0, 0), (16, .isub, 0, 0, 0), (17, .aconst_null, 0, 0, 0), (18, .aconst_null, 0, 0, 0), (19, .aconst_null, 0, 0, 0)]
def zm_c30_2 : List (Nat × zm_I) := [(20, .invokespecial 97, 0, 0, 0), (23, .areturn, 0, 0, 0), (24, .iload_n 1, 0, 0, 0), (25, .invokestatic 50, 0, 0, 0), (28, .ifCond .eq 20, 0, 0, 0), (31, .new 95, 7, 0, 0)]
def zm_c30_3 : List (Nat × zm_I) := [(34, .dup, 0, 0, 0), (35, .bipush 65, 0, 0, 0), (37, .iload_n 1, 0, 0, 0), (38, .bipush 65, 0, 0, 0), (40, .isub, 0, 0, 0), (41, .aconst_null, 0, 0, 0)]
def zm_c30_4 : List (Nat × zm_I) := [(42, .aconst_null, 0, 0, 0), (43, .aconst_null, 0, 0, 0), (44, .invokespecial 97, 0, 0, 0), (47, .areturn, 0, 0, 0), (48, .aload_n 0, 0, 0, 0), (49, .iload_n 1, 0, 0, 0)]
def zm_c30_5 : List (Nat × zm_I) := [(50, .invokevirtual 103, 0, 0, 0), (53, .istore_n 2, 0, 0, 0), (54, .iload_n 2, 0, 0, 0), (55, .ifCond .lt 17, 0, 0, 0), (58, .new 95, 7, 0, 0), (61, .dup, 0, 0, 0)]
def zm_c30_6 : List (Nat × zm_I) := [(62, .bipush 97, 0, 0, 0), (64, .iload_n 2, 0, 0, 0), (65, .aconst_null, 0, 0, 0), (66, .aconst_null, 0, 0, 0), (67, .aconst_null, 0, 0, 0), (68, .invokespecial 97, 0, 0, 0)]
def zm_c30_7 : List (Nat × zm_I) := [(71, .areturn, 0, 0, 0), (72, .new 95, 7, 0, 0), (75, .dup, 0, 0, 0), (76, .bipush 110, 0, 0, 0), (78, .iconst 0, 0, 0, 0), (79, .aconst_null, 0, 0, 0)]
def zm_c30_8 : List (Nat × zm_I) := [(80, .aconst_null, 0, 0, 0), (81, .aconst_null, 0, 0, 0), (82, .invokespecial 97, 0, 0, 0), (85, .areturn, 0, 0, 0)]
def zm_g30 (pc : Nat) : Option zm_I := cond (Nat.blt pc 42) (cond (Nat.blt pc 20) (cond (Nat.blt pc 13) (zm_lk zm_c30_0 pc) (zm_lk zm_c30_1 pc)) (cond (Nat.blt pc 34) (zm_lk zm_c30_2 pc) (zm_lk zm_c30_3 pc))) (cond (Nat.blt pc 62) (cond (Nat.blt pc 50) (zm_lk zm_c30_4 pc) (zm_lk zm_c30_5 pc)) (cond (Nat.blt pc 71) (zm_lk zm_c30_6 pc) (cond (Nat.blt pc 80) (zm_lk zm_c30_7 pc) (zm_lk zm_c30_8 pc))))
/-- NeedMachine$Expression.<init>(CILNeedMachine$Expression;LNeedMachine$Expression;LNeedMachine$Expression;)V -/
def zm_c31_0 : List (Nat × zm_I) := [(0, .aload_n 0, 0, 0, 0), (1, .invokespecial 1, 0, 0, 0), (4, .aload_n 0, 0, 0, 0), (5, .iload_n 1, 0, 0, 0), (6, .putfield 7, 7, 0, 0), (9, .aload_n 0, 0, 0, 0)]
def zm_c31_1 : List (Nat × zm_I) := [(10, .iload_n 2, 0, 0, 0), (11, .putfield 13, 7, 1, 0), (14, .aload_n 0, 0, 0, 0), (15, .aload_n 3, 0, 0, 0), (16, .putfield 17, 7, 2, 0), (19, .aload_n 0, 0, 0, 0)]
def zm_c31_2 : List (Nat × zm_I) := [(20, .aload 4, 0, 0, 0), (22, .putfield 21, 7, 3, 0), (25, .aload_n 0, 0, 0, 0), (26, .aload 5, 0, 0, 0), (28, .putfield 24, 7, 4, 0), (31, .return_, 0, 0, 0)]
def zm_g31 (pc : Nat) : Option zm_I := cond (Nat.blt pc 10) (zm_lk zm_c31_0 pc) (cond (Nat.blt pc 20) (zm_lk zm_c31_1 pc) (zm_lk zm_c31_2 pc))
/-- NeedMachine$Definition.<init>(IILNeedMachine$Expression;)V -/
def zm_c32_0 : List (Nat × zm_I) := [(0, .aload_n 0, 0, 0, 0), (1, .invokespecial 1, 0, 0, 0), (4, .aload_n 0, 0, 0, 0), (5, .iload_n 1, 0, 0, 0), (6, .putfield 7, 6, 0, 0), (9, .aload_n 0, 0, 0, 0)]
def zm_c32_1 : List (Nat × zm_I) := [(10, .iload_n 2, 0, 0, 0), (11, .putfield 13, 6, 1, 0), (14, .aload_n 0, 0, 0, 0), (15, .aload_n 3, 0, 0, 0), (16, .putfield 16, 6, 2, 0), (19, .return_, 0, 0, 0)]
def zm_g32 (pc : Nat) : Option zm_I := cond (Nat.blt pc 10) (zm_lk zm_c32_0 pc) (zm_lk zm_c32_1 pc)
/-- NeedMachineLaw.ask(LNeedMachine;[J)I -/
def zm_c33_0 : List (Nat × zm_I) := [(0, .aload_n 1, 0, 0, 0), (1, .iconst 0, 0, 0, 0), (2, .aload_n 0, 0, 0, 0), (3, .invokevirtual 21, 0, 0, 0), (6, .i2l, 0, 0, 0), (7, .lastore, 0, 0, 0)]
def zm_c33_1 : List (Nat × zm_I) := [(8, .goto 18, 0, 0, 0), (11, .astore_n 2, 0, 0, 0), (12, .iconst 1, 0, 0, 0), (13, .ireturn, 0, 0, 0), (14, .astore_n 2, 0, 0, 0), (15, .iconst 2, 0, 0, 0)]
def zm_c33_2 : List (Nat × zm_I) := [(16, .ireturn, 0, 0, 0), (17, .astore_n 2, 0, 0, 0), (18, .iconst 3, 0, 0, 0), (19, .ireturn, 0, 0, 0), (20, .astore_n 2, 0, 0, 0), (21, .iconst 4, 0, 0, 0)]
def zm_c33_3 : List (Nat × zm_I) := [(22, .ireturn, 0, 0, 0), (23, .astore_n 2, 0, 0, 0), (24, .iconst 5, 0, 0, 0), (25, .ireturn, 0, 0, 0), (26, .iconst 0, 0, 0, 0), (27, .ireturn, 0, 0, 0)]
def zm_g33 (pc : Nat) : Option zm_I := cond (Nat.blt pc 16) (cond (Nat.blt pc 8) (zm_lk zm_c33_0 pc) (zm_lk zm_c33_1 pc)) (cond (Nat.blt pc 22) (zm_lk zm_c33_2 pc) (zm_lk zm_c33_3 pc))
/-- NeedMachine.ask()I -/
def zm_c34_0 : List (Nat × zm_I) := [(0, .aload_n 0, 0, 0, 0), (1, .getfield 10, 0, 0, 0), (4, .invokevirtual 44, 0, 0, 0), (7, .astore_n 1, 0, 0, 0), (8, .aload_n 0, 0, 0, 0), (9, .aconst_null, 0, 0, 0)]
def zm_c34_1 : List (Nat × zm_I) := [(10, .putfield 48, 0, 3, 0), (13, .aload_n 0, 0, 0, 0), (14, .getfield 19, 0, 1, 0), (17, .invokevirtual 52, 0, 0, 0), (20, .aload_n 0, 0, 0, 0), (21, .iconst 0, 0, 0, 0)]
def zm_c34_2 : List (Nat × zm_I) := [(22, .putfield 55, 0, 4, 0), (25, .aload_n 0, 0, 0, 0), (26, .iconst 0, 0, 0, 0), (27, .putfield 58, 0, 8, 0), (30, .aload_n 0, 0, 0, 0), (31, .aload_n 0, 0, 0, 0)]
def zm_c34_3 : List (Nat × zm_I) := [(32, .aload_n 1, 0, 0, 0), (33, .aconst_null, 0, 0, 0), (34, .iconst 1, 0, 0, 0), (35, .invokevirtual 61, 0, 0, 0), (38, .putfield 48, 0, 3, 0), (41, .aload_n 0, 0, 0, 0)]
def zm_c34_4 : List (Nat × zm_I) := [(42, .getfield 48, 0, 3, 0), (45, .getfield 65, 3, 0, 0), (48, .ireturn, 0, 0, 0)]
def zm_g34 (pc : Nat) : Option zm_I := cond (Nat.blt pc 22) (cond (Nat.blt pc 10) (zm_lk zm_c34_0 pc) (zm_lk zm_c34_1 pc)) (cond (Nat.blt pc 32) (zm_lk zm_c34_2 pc) (cond (Nat.blt pc 42) (zm_lk zm_c34_3 pc) (zm_lk zm_c34_4 pc)))
/-- NeedMachine$Text.readAsked()LNeedMachine$Expression; -/
def zm_c35_0 : List (Nat × zm_I) := [(0, .aload_n 0, 0, 0, 0), (1, .invokevirtual 41, 0, 0, 0), (4, .aload_n 0, 0, 0, 0), (5, .invokevirtual 66, 0, 0, 0), (8, .areturn, 0, 0, 0)]
def zm_g35 (pc : Nat) : Option zm_I := zm_lk zm_c35_0 pc
/-- NeedMachine$Store.takeAllBack()V -/
def zm_c36_0 : List (Nat × zm_I) := [(0, .aload_n 0, 0, 0, 0), (1, .iconst 0, 0, 0, 0), (2, .putfield 35, 2, 4, 0), (5, .aload_n 0, 0, 0, 0), (6, .iconst 0, 0, 0, 0), (7, .putfield 38, 2, 5, 0)]
def zm_c36_1 : List (Nat × zm_I) := [(10, .aload_n 0, 0, 0, 0), (11, .iconst 0, 0, 0, 0), (12, .putfield 41, 2, 6, 0), (15, .return_, 0, 0, 0)]
def zm_g36 (pc : Nat) : Option zm_I := cond (Nat.blt pc 10) (zm_lk zm_c36_0 pc) (zm_lk zm_c36_1 pc)
/-- NeedMachine.work(LNeedMachine$Expression;LNeedMachine$Arguments;I)LNeedMachine$Value; -/
def zm_c37_0 : List (Nat × zm_I) := [(0, .iload_n 3, 0, 0, 0), (1, .bipush 60, 0, 0, 0), (3, .if_icmp .le 13, 0, 0, 0), (16, .aload_n 0, 0, 0, 0), (17, .aload_n 0, 0, 0, 0), (18, .getfield 58, 0, 8, 0)]
def zm_c37_1 : List (Nat × zm_I) := [(21, .iload_n 3, 0, 0, 0), (22, .invokestatic 133, 0, 0, 0), (25, .putfield 58, 0, 8, 0), (28, .aload_n 1, 0, 0, 0), (29, .getfield 139, 7, 0, 0), (32, .lookupswitch 249 #[(46, 162), (48, 92), (58, 136), (63, 241), (65, 126), (97, 112), (104, 170), (110, 104), (116, 194), (122, 218)], 92, 0, 0)]
def zm_c37_2 : List (Nat × zm_I) := [(124, .aload_n 0, 0, 0, 0), (125, .getfield 19, 0, 1, 0), (128, .aload_n 1, 0, 0, 0), (129, .getfield 145, 7, 1, 0), (132, .invokevirtual 148, 0, 0, 0), (135, .areturn, 0, 0, 0)]
def zm_c37_3 : List (Nat × zm_I) := [(136, .aload_n 0, 0, 0, 0), (137, .getfield 19, 0, 1, 0), (140, .getfield 152, 2, 0, 0), (143, .areturn, 0, 0, 0), (144, .aload_n 0, 0, 0, 0), (145, .aload_n 2, 0, 0, 0)]
def zm_c37_4 : List (Nat × zm_I) := [(146, .aload_n 1, 0, 0, 0), (147, .getfield 145, 7, 1, 0), (150, .invokestatic 155, 0, 0, 0), (153, .iload_n 3, 0, 0, 0), (154, .invokevirtual 89, 0, 0, 0), (157, .areturn, 0, 0, 0)]
def zm_c37_5 : List (Nat × zm_I) := [(158, .aload_n 0, 0, 0, 0), (159, .aload_n 1, 0, 0, 0), (160, .getfield 145, 7, 1, 0), (163, .iload_n 3, 0, 0, 0), (164, .invokevirtual 159, 0, 0, 0), (167, .areturn, 0, 0, 0)]
def zm_c37_6 : List (Nat × zm_I) := [(168, .aload_n 0, 0, 0, 0), (169, .getfield 19, 0, 1, 0), (172, .aload_n 0, 0, 0, 0), (173, .aload_n 1, 0, 0, 0), (174, .getfield 163, 7, 2, 0), (177, .aload_n 2, 0, 0, 0)]
def zm_c37_7 : List (Nat × zm_I) := [(178, .invokevirtual 167, 0, 0, 0), (181, .aload_n 0, 0, 0, 0), (182, .aload_n 1, 0, 0, 0), (183, .getfield 171, 7, 3, 0), (186, .aload_n 2, 0, 0, 0), (187, .invokevirtual 167, 0, 0, 0)]
def zm_c37_8 : List (Nat × zm_I) := [(190, .invokevirtual 174, 0, 0, 0), (193, .areturn, 0, 0, 0), (194, .aload_n 0, 0, 0, 0), (195, .aload_n 1, 0, 0, 0), (196, .aload_n 2, 0, 0, 0), (197, .iload_n 3, 0, 0, 0)]
def zm_c37_9 : List (Nat × zm_I) := [(198, .invokevirtual 178, 0, 0, 0), (201, .areturn, 0, 0, 0), (202, .aload_n 0, 0, 0, 0), (203, .aload_n 0, 0, 0, 0), (204, .aload_n 1, 0, 0, 0), (205, .getfield 163, 7, 2, 0)]
def zm_c37_10 : List (Nat × zm_I) := [(208, .aload_n 2, 0, 0, 0), (209, .iload_n 3, 0, 0, 0), (210, .iconst 1, 0, 0, 0), (211, .iadd, 0, 0, 0), (212, .invokevirtual 61, 0, 0, 0), (215, .invokestatic 124, 0, 0, 0)]
def zm_c37_11 : List (Nat × zm_I) := [(218, .getfield 85, 3, 2, 0), (221, .iload_n 3, 0, 0, 0), (222, .invokevirtual 89, 0, 0, 0), (225, .areturn, 0, 0, 0), (226, .aload_n 0, 0, 0, 0), (227, .aload_n 0, 0, 0, 0)]
def zm_c37_12 : List (Nat × zm_I) := [(228, .aload_n 1, 0, 0, 0), (229, .getfield 163, 7, 2, 0), (232, .aload_n 2, 0, 0, 0), (233, .iload_n 3, 0, 0, 0), (234, .iconst 1, 0, 0, 0), (235, .iadd, 0, 0, 0)]
def zm_c37_13 : List (Nat × zm_I) := [(236, .invokevirtual 61, 0, 0, 0), (239, .invokestatic 124, 0, 0, 0), (242, .getfield 93, 3, 3, 0), (245, .iload_n 3, 0, 0, 0), (246, .invokevirtual 89, 0, 0, 0), (249, .areturn, 0, 0, 0)]
def zm_c37_14 : List (Nat × zm_I) := [(250, .aload_n 0, 0, 0, 0), (251, .getfield 19, 0, 1, 0), (254, .aload_n 0, 0, 0, 0), (255, .aload_n 1, 0, 0, 0), (256, .getfield 163, 7, 2, 0), (259, .aload_n 2, 0, 0, 0)]
def zm_c37_15 : List (Nat × zm_I) := [(260, .iload_n 3, 0, 0, 0), (261, .iconst 1, 0, 0, 0), (262, .iadd, 0, 0, 0), (263, .invokevirtual 61, 0, 0, 0), (266, .invokestatic 181, 0, 0, 0), (269, .invokevirtual 148, 0, 0, 0)]
def zm_c37_16 : List (Nat × zm_I) := [(272, .areturn, 0, 0, 0), (273, .aload_n 0, 0, 0, 0), (274, .aload_n 1, 0, 0, 0), (275, .aload_n 2, 0, 0, 0), (276, .iload_n 3, 0, 0, 0), (277, .invokevirtual 184, 0, 0, 0)]
def zm_c37_17 : List (Nat × zm_I) := [(280, .areturn, 0, 0, 0), (281, .aload_n 0, 0, 0, 0), (282, .aload_n 1, 0, 0, 0), (283, .aload_n 2, 0, 0, 0), (284, .iload_n 3, 0, 0, 0), (285, .invokevirtual 187, 0, 0, 0)]
def zm_c37_18 : List (Nat × zm_I) := [(288, .areturn, 0, 0, 0)]
def zm_g37 (pc : Nat) : Option zm_I := cond (Nat.blt pc 198) (cond (Nat.blt pc 146) (cond (Nat.blt pc 124) (cond (Nat.blt pc 21) (zm_lk zm_c37_0 pc) (zm_lk zm_c37_1 pc)) (cond (Nat.blt pc 136) (zm_lk zm_c37_2 pc) (zm_lk zm_c37_3 pc))) (cond (Nat.blt pc 168) (cond (Nat.blt pc 158) (zm_lk zm_c37_4 pc) (zm_lk zm_c37_5 pc)) (cond (Nat.blt pc 178) (zm_lk zm_c37_6 pc) (cond (Nat.blt pc 190) (zm_lk zm_c37_7 pc) (zm_lk zm_c37_8 pc))))) (cond (Nat.blt pc 250) (cond (Nat.blt pc 218) (cond (Nat.blt pc 208) (zm_lk zm_c37_9 pc) (zm_lk zm_c37_10 pc)) (cond (Nat.blt pc 228) (zm_lk zm_c37_11 pc) (cond (Nat.blt pc 236) (zm_lk zm_c37_12 pc) (zm_lk zm_c37_13 pc)))) (cond (Nat.blt pc 272) (cond (Nat.blt pc 260) (zm_lk zm_c37_14 pc) (zm_lk zm_c37_15 pc)) (cond (Nat.blt pc 280) (zm_lk zm_c37_16 pc) (cond (Nat.blt pc 288) (zm_lk zm_c37_17 pc) (zm_lk zm_c37_18 pc)))))
/-- NeedMachine$Store.makeNumber(I)LNeedMachine$Value; -/
def zm_c38_0 : List (Nat × zm_I) := [(0, .aload_n 0, 0, 0, 0), (1, .iconst 0, 0, 0, 0), (2, .invokevirtual 44, 0, 0, 0), (5, .astore_n 2, 0, 0, 0), (6, .aload_n 2, 0, 0, 0), (7, .iload_n 1, 0, 0, 0)]
def zm_c38_1 : List (Nat × zm_I) := [(8, .putfield 48, 3, 1, 0), (11, .aload_n 2, 0, 0, 0), (12, .areturn, 0, 0, 0)]
def zm_g38 (pc : Nat) : Option zm_I := cond (Nat.blt pc 8) (zm_lk zm_c38_0 pc) (zm_lk zm_c38_1 pc)
/-- NeedMachine$Store.nextValue(I)LNeedMachine$Value; -/
def zm_c39_0 : List (Nat × zm_I) := [(0, .aload_n 0, 0, 0, 0), (1, .getfield 35, 2, 4, 0), (4, .aload_n 0, 0, 0, 0), (5, .getfield 25, 2, 1, 0), (8, .invokevirtual 62, 0, 0, 0), (11, .if_icmp .lt 18, 0, 0, 0)]
def zm_c39_1 : List (Nat × zm_I) := [(14, .aload_n 0, 0, 0, 0), (15, .getfield 25, 2, 1, 0), (18, .new 9, 3, 0, 0), (21, .dup, 0, 0, 0), (22, .invokespecial 11, 0, 0, 0), (25, .invokevirtual 69, 0, 0, 0)]
def zm_c39_2 : List (Nat × zm_I) := [(28, .pop, 0, 0, 0), (29, .aload_n 0, 0, 0, 0), (30, .getfield 25, 2, 1, 0), (33, .aload_n 0, 0, 0, 0), (34, .getfield 35, 2, 4, 0), (37, .invokevirtual 73, 0, 0, 0)]
def zm_c39_3 : List (Nat × zm_I) := [(40, .checkcast 9, 3, 0, 0), (43, .astore_n 2, 0, 0, 0), (44, .aload_n 0, 0, 0, 0), (45, .dup, 0, 0, 0), (46, .getfield 35, 2, 4, 0), (49, .iconst 1, 0, 0, 0)]
def zm_c39_4 : List (Nat × zm_I) := [(50, .iadd, 0, 0, 0), (51, .putfield 35, 2, 4, 0), (54, .aload_n 2, 0, 0, 0), (55, .iload_n 1, 0, 0, 0), (56, .putfield 18, 3, 0, 0), (59, .aload_n 2, 0, 0, 0)]
def zm_c39_5 : List (Nat × zm_I) := [(60, .areturn, 0, 0, 0)]
def zm_g39 (pc : Nat) : Option zm_I := cond (Nat.blt pc 40) (cond (Nat.blt pc 14) (zm_lk zm_c39_0 pc) (cond (Nat.blt pc 28) (zm_lk zm_c39_1 pc) (zm_lk zm_c39_2 pc))) (cond (Nat.blt pc 50) (zm_lk zm_c39_3 pc) (cond (Nat.blt pc 60) (zm_lk zm_c39_4 pc) (zm_lk zm_c39_5 pc)))
/-- NeedMachine.argumentAt(LNeedMachine$Arguments;I)LNeedMachine$Closure; -/
def zm_c40_0 : List (Nat × zm_I) := [(0, .aload_n 0, 0, 0, 0), (1, .astore_n 2, 0, 0, 0), (2, .aload_n 2, 0, 0, 0), (3, .ifnull 26, 0, 0, 0), (6, .aload_n 2, 0, 0, 0), (7, .getfield 214, 9, 2, 0)]
def zm_c40_1 : List (Nat × zm_I) := [(10, .iload_n 1, 0, 0, 0), (11, .iconst 1, 0, 0, 0), (12, .iadd, 0, 0, 0), (13, .if_icmp .ne 8, 0, 0, 0), (16, .aload_n 2, 0, 0, 0), (17, .getfield 259, 9, 1, 0)]
def zm_c40_2 : List (Nat × zm_I) := [(20, .areturn, 0, 0, 0), (21, .aload_n 2, 0, 0, 0), (22, .getfield 262, 9, 0, 0), (25, .astore_n 2, 0, 0, 0), (26, .goto (-24), 0, 0, 0)]
def zm_g40 (pc : Nat) : Option zm_I := cond (Nat.blt pc 10) (zm_lk zm_c40_0 pc) (cond (Nat.blt pc 20) (zm_lk zm_c40_1 pc) (zm_lk zm_c40_2 pc))
/-- NeedMachine.force(LNeedMachine$Closure;I)LNeedMachine$Value; -/
def zm_c41_0 : List (Nat × zm_I) := [(0, .aload_n 1, 0, 0, 0), (1, .getfield 235, 8, 2, 0), (4, .ifCond .eq 18, 0, 0, 0), (7, .aload_n 0, 0, 0, 0), (8, .dup, 0, 0, 0), (9, .getfield 121, 0, 7, 0)]
def zm_c41_1 : List (Nat × zm_I) := [(12, .iconst 1, 0, 0, 0), (13, .iadd, 0, 0, 0), (14, .putfield 121, 0, 7, 0), (17, .aload_n 1, 0, 0, 0), (18, .invokestatic 241, 0, 0, 0), (21, .areturn, 0, 0, 0)]
def zm_c41_2 : List (Nat × zm_I) := [(22, .aload_n 1, 0, 0, 0), (23, .iconst 1, 0, 0, 0), (24, .putfield 235, 8, 2, 0), (27, .aload_n 0, 0, 0, 0), (28, .dup, 0, 0, 0), (29, .getfield 118, 0, 6, 0)]
def zm_c41_3 : List (Nat × zm_I) := [(32, .iconst 1, 0, 0, 0), (33, .iadd, 0, 0, 0), (34, .putfield 118, 0, 6, 0), (37, .aload_n 0, 0, 0, 0), (38, .aload_n 1, 0, 0, 0), (39, .getfield 245, 8, 0, 0)]
def zm_c41_4 : List (Nat × zm_I) := [(42, .aload_n 1, 0, 0, 0), (43, .getfield 248, 8, 1, 0), (46, .iload_n 2, 0, 0, 0), (47, .iconst 1, 0, 0, 0), (48, .iadd, 0, 0, 0), (49, .invokevirtual 61, 0, 0, 0)]
def zm_c41_5 : List (Nat × zm_I) := [(52, .astore_n 3, 0, 0, 0), (53, .aload_n 1, 0, 0, 0), (54, .aload_n 3, 0, 0, 0), (55, .putfield 251, 8, 3, 0), (58, .aload_n 3, 0, 0, 0), (59, .areturn, 0, 0, 0)]
def zm_g41 (pc : Nat) : Option zm_I := cond (Nat.blt pc 32) (cond (Nat.blt pc 12) (zm_lk zm_c41_0 pc) (cond (Nat.blt pc 22) (zm_lk zm_c41_1 pc) (zm_lk zm_c41_2 pc))) (cond (Nat.blt pc 42) (zm_lk zm_c41_3 pc) (cond (Nat.blt pc 52) (zm_lk zm_c41_4 pc) (zm_lk zm_c41_5 pc)))
/-- NeedMachine.mustBeWorkedOut(LNeedMachine$Closure;)LNeedMachine$Value; -/
def zm_c42_0 : List (Nat × zm_I) := [(0, .aload_n 0, 0, 0, 0), (1, .getfield 251, 8, 3, 0), (4, .ifnonnull 14, 0, 0, 0), (18, .aload_n 0, 0, 0, 0), (19, .getfield 251, 8, 3, 0), (22, .areturn, 0, 0, 0)]
def zm_g42 (pc : Nat) : Option zm_I := zm_lk zm_c42_0 pc
/-- NeedMachine.workName(II)LNeedMachine$Value; -/
def zm_c43_0 : List (Nat × zm_I) := [(0, .aload_n 0, 0, 0, 0), (1, .iload_n 1, 0, 0, 0), (2, .invokevirtual 101, 0, 0, 0), (5, .astore_n 3, 0, 0, 0), (6, .aload_n 3, 0, 0, 0), (7, .getfield 41, 6, 1, 0)]
def zm_c43_1 : List (Nat × zm_I) := [(10, .ifCond .ne 11, 0, 0, 0), (13, .aload_n 0, 0, 0, 0), (14, .aload_n 3, 0, 0, 0), (15, .aconst_null, 0, 0, 0), (16, .iload_n 2, 0, 0, 0), (17, .invokevirtual 190, 0, 0, 0)]
def zm_c43_2 : List (Nat × zm_I) := [(20, .areturn, 0, 0, 0), (21, .aload_n 0, 0, 0, 0), (22, .getfield 19, 0, 1, 0), (25, .iload_n 1, 0, 0, 0), (26, .aconst_null, 0, 0, 0), (27, .invokevirtual 194, 0, 0, 0)]
def zm_c43_3 : List (Nat × zm_I) := [(30, .areturn, 0, 0, 0)]
def zm_g43 (pc : Nat) : Option zm_I := cond (Nat.blt pc 20) (cond (Nat.blt pc 10) (zm_lk zm_c43_0 pc) (zm_lk zm_c43_1 pc)) (cond (Nat.blt pc 30) (zm_lk zm_c43_2 pc) (zm_lk zm_c43_3 pc))
/-- NeedMachine.definitionOf(I)LNeedMachine$Definition; -/
def zm_c44_0 : List (Nat × zm_I) := [(0, .aload_n 0, 0, 0, 0), (1, .getfield 25, 0, 2, 0), (4, .iload_n 1, 0, 0, 0), (5, .aaload, 0, 0, 0), (6, .astore_n 2, 0, 0, 0), (7, .aload_n 2, 0, 0, 0)]
def zm_c44_1 : List (Nat × zm_I) := [(8, .ifnonnull 14, 0, 0, 0), (22, .aload_n 2, 0, 0, 0), (23, .areturn, 0, 0, 0)]
def zm_g44 (pc : Nat) : Option zm_I := cond (Nat.blt pc 8) (zm_lk zm_c44_0 pc) (zm_lk zm_c44_1 pc)
/-- NeedMachine.call(LNeedMachine$Definition;LNeedMachine$Arguments;I)LNeedMachine$Value; -/
def zm_c45_0 : List (Nat × zm_I) := [(0, .aload_n 0, 0, 0, 0), (1, .getfield 55, 0, 4, 0), (4, .sipush 400, 0, 0, 0), (7, .if_icmp .lt 13, 0, 0, 0), (20, .aload_n 0, 0, 0, 0), (21, .dup, 0, 0, 0)]
def zm_c45_1 : List (Nat × zm_I) := [(22, .getfield 55, 0, 4, 0), (25, .iconst 1, 0, 0, 0), (26, .iadd, 0, 0, 0), (27, .putfield 55, 0, 4, 0), (30, .aload_n 0, 0, 0, 0), (31, .dup, 0, 0, 0)]
def zm_c45_2 : List (Nat × zm_I) := [(32, .getfield 115, 0, 5, 0), (35, .iconst 1, 0, 0, 0), (36, .iadd, 0, 0, 0), (37, .putfield 115, 0, 5, 0), (40, .aload_n 0, 0, 0, 0), (41, .aload_n 1, 0, 0, 0)]
def zm_c45_3 : List (Nat × zm_I) := [(42, .getfield 221, 6, 2, 0), (45, .aload_n 2, 0, 0, 0), (46, .iload_n 3, 0, 0, 0), (47, .iconst 1, 0, 0, 0), (48, .iadd, 0, 0, 0), (49, .invokevirtual 61, 0, 0, 0)]
def zm_c45_4 : List (Nat × zm_I) := [(52, .areturn, 0, 0, 0)]
def zm_g45 (pc : Nat) : Option zm_I := cond (Nat.blt pc 32) (cond (Nat.blt pc 22) (zm_lk zm_c45_0 pc) (zm_lk zm_c45_1 pc)) (cond (Nat.blt pc 42) (zm_lk zm_c45_2 pc) (cond (Nat.blt pc 52) (zm_lk zm_c45_3 pc) (zm_lk zm_c45_4 pc)))
/-- NeedMachine$Store.makeFunction(ILNeedMachine$Arguments;)LNeedMachine$Value; -/
def zm_c46_0 : List (Nat × zm_I) := [(0, .aload_n 0, 0, 0, 0), (1, .iconst 3, 0, 0, 0), (2, .invokevirtual 44, 0, 0, 0), (5, .astore_n 3, 0, 0, 0), (6, .aload_n 3, 0, 0, 0), (7, .iload_n 1, 0, 0, 0)]
def zm_c46_1 : List (Nat × zm_I) := [(8, .putfield 48, 3, 1, 0), (11, .aload_n 3, 0, 0, 0), (12, .aload_n 2, 0, 0, 0), (13, .putfield 58, 3, 4, 0), (16, .aload_n 3, 0, 0, 0), (17, .areturn, 0, 0, 0)]
def zm_g46 (pc : Nat) : Option zm_I := cond (Nat.blt pc 8) (zm_lk zm_c46_0 pc) (zm_lk zm_c46_1 pc)
/-- NeedMachine.closureOf(LNeedMachine$Expression;LNeedMachine$Arguments;)LNeedMachine$Closure; -/
def zm_c47_0 : List (Nat × zm_I) := [(0, .aload_n 1, 0, 0, 0), (1, .getfield 139, 7, 0, 0), (4, .bipush 97, 0, 0, 0), (6, .if_icmp .ne 12, 0, 0, 0), (9, .aload_n 2, 0, 0, 0), (10, .aload_n 1, 0, 0, 0)]
def zm_c47_1 : List (Nat × zm_I) := [(11, .getfield 145, 7, 1, 0), (14, .invokestatic 155, 0, 0, 0), (17, .areturn, 0, 0, 0), (18, .aload_n 0, 0, 0, 0), (19, .getfield 19, 0, 1, 0), (22, .aload_n 1, 0, 0, 0)]
def zm_c47_2 : List (Nat × zm_I) := [(23, .aload_n 2, 0, 0, 0), (24, .invokevirtual 254, 0, 0, 0), (27, .areturn, 0, 0, 0)]
def zm_g47 (pc : Nat) : Option zm_I := cond (Nat.blt pc 11) (zm_lk zm_c47_0 pc) (cond (Nat.blt pc 23) (zm_lk zm_c47_1 pc) (zm_lk zm_c47_2 pc))
/-- NeedMachine$Store.makeClosure(LNeedMachine$Expression;LNeedMachine$Arguments;)LNeedMachine$Closure; -/
def zm_c48_0 : List (Nat × zm_I) := [(0, .aload_n 0, 0, 0, 0), (1, .getfield 38, 2, 5, 0), (4, .aload_n 0, 0, 0, 0), (5, .getfield 29, 2, 2, 0), (8, .invokevirtual 62, 0, 0, 0), (11, .if_icmp .lt 18, 0, 0, 0)]
def zm_c48_1 : List (Nat × zm_I) := [(14, .aload_n 0, 0, 0, 0), (15, .getfield 29, 2, 2, 0), (18, .new 66, 8, 0, 0), (21, .dup, 0, 0, 0), (22, .invokespecial 68, 0, 0, 0), (25, .invokevirtual 69, 0, 0, 0)]
def zm_c48_2 : List (Nat × zm_I) := [(28, .pop, 0, 0, 0), (29, .aload_n 0, 0, 0, 0), (30, .getfield 29, 2, 2, 0), (33, .aload_n 0, 0, 0, 0), (34, .getfield 38, 2, 5, 0), (37, .invokevirtual 73, 0, 0, 0)]
def zm_c48_3 : List (Nat × zm_I) := [(40, .checkcast 66, 8, 0, 0), (43, .astore_n 3, 0, 0, 0), (44, .aload_n 0, 0, 0, 0), (45, .dup, 0, 0, 0), (46, .getfield 38, 2, 5, 0), (49, .iconst 1, 0, 0, 0)]
def zm_c48_4 : List (Nat × zm_I) := [(50, .iadd, 0, 0, 0), (51, .putfield 38, 2, 5, 0), (54, .aload_n 3, 0, 0, 0), (55, .aload_n 1, 0, 0, 0), (56, .putfield 77, 8, 0, 0), (59, .aload_n 3, 0, 0, 0)]
def zm_c48_5 : List (Nat × zm_I) := [(60, .aload_n 2, 0, 0, 0), (61, .putfield 81, 8, 1, 0), (64, .aload_n 3, 0, 0, 0), (65, .iconst 0, 0, 0, 0), (66, .putfield 84, 8, 2, 0), (69, .aload_n 3, 0, 0, 0)]
def zm_c48_6 : List (Nat × zm_I) := [(70, .aconst_null, 0, 0, 0), (71, .putfield 88, 8, 3, 0), (74, .aload_n 3, 0, 0, 0), (75, .areturn, 0, 0, 0)]
def zm_g48 (pc : Nat) : Option zm_I := cond (Nat.blt pc 40) (cond (Nat.blt pc 14) (zm_lk zm_c48_0 pc) (cond (Nat.blt pc 28) (zm_lk zm_c48_1 pc) (zm_lk zm_c48_2 pc))) (cond (Nat.blt pc 60) (cond (Nat.blt pc 50) (zm_lk zm_c48_3 pc) (zm_lk zm_c48_4 pc)) (cond (Nat.blt pc 70) (zm_lk zm_c48_5 pc) (zm_lk zm_c48_6 pc)))
/-- NeedMachine$Closure.<init>()V -/
def zm_c49_0 : List (Nat × zm_I) := [(0, .aload_n 0, 0, 0, 0), (1, .invokespecial 1, 0, 0, 0), (4, .return_, 0, 0, 0)]
def zm_g49 (pc : Nat) : Option zm_I := zm_lk zm_c49_0 pc
/-- NeedMachine$Store.makePair(LNeedMachine$Closure;LNeedMachine$Closure;)LNeedMachine$Value; -/
def zm_c50_0 : List (Nat × zm_I) := [(0, .aload_n 0, 0, 0, 0), (1, .iconst 2, 0, 0, 0), (2, .invokevirtual 44, 0, 0, 0), (5, .astore_n 3, 0, 0, 0), (6, .aload_n 3, 0, 0, 0), (7, .aload_n 1, 0, 0, 0)]
def zm_c50_1 : List (Nat × zm_I) := [(8, .putfield 51, 3, 2, 0), (11, .aload_n 3, 0, 0, 0), (12, .aload_n 2, 0, 0, 0), (13, .putfield 55, 3, 3, 0), (16, .aload_n 3, 0, 0, 0), (17, .areturn, 0, 0, 0)]
def zm_g50 (pc : Nat) : Option zm_I := cond (Nat.blt pc 8) (zm_lk zm_c50_0 pc) (zm_lk zm_c50_1 pc)
/-- NeedMachine.apply(LNeedMachine$Expression;LNeedMachine$Arguments;I)LNeedMachine$Value; -/
def zm_c51_0 : List (Nat × zm_I) := [(0, .aload_n 0, 0, 0, 0), (1, .aload_n 1, 0, 0, 0), (2, .getfield 163, 7, 2, 0), (5, .aload_n 2, 0, 0, 0), (6, .iload_n 3, 0, 0, 0), (7, .iconst 1, 0, 0, 0)]
def zm_c51_1 : List (Nat × zm_I) := [(8, .iadd, 0, 0, 0), (9, .invokevirtual 61, 0, 0, 0), (12, .astore 4, 0, 0, 0), (14, .aload 4, 0, 0, 0), (16, .getfield 65, 3, 0, 0), (19, .iconst 3, 0, 0, 0)]
def zm_c51_2 : List (Nat × zm_I) := [(20, .if_icmp .eq 13, 0, 0, 0), (33, .aload_n 0, 0, 0, 0), (34, .aload 4, 0, 0, 0), (36, .getfield 203, 3, 1, 0), (39, .invokevirtual 101, 0, 0, 0), (42, .astore 5, 0, 0, 0)]
def zm_c51_3 : List (Nat × zm_I) := [(44, .aload_n 0, 0, 0, 0), (45, .getfield 19, 0, 1, 0), (48, .aload 4, 0, 0, 0), (50, .getfield 206, 3, 4, 0), (53, .aload_n 0, 0, 0, 0), (54, .aload_n 1, 0, 0, 0)]
def zm_c51_4 : List (Nat × zm_I) := [(55, .getfield 171, 7, 3, 0), (58, .aload_n 2, 0, 0, 0), (59, .invokevirtual 167, 0, 0, 0), (62, .invokevirtual 210, 0, 0, 0), (65, .astore 6, 0, 0, 0), (67, .aload 6, 0, 0, 0)]
def zm_c51_5 : List (Nat × zm_I) := [(69, .getfield 214, 9, 2, 0), (72, .aload 5, 0, 0, 0), (74, .getfield 41, 6, 1, 0), (77, .if_icmp .ge 18, 0, 0, 0), (80, .aload_n 0, 0, 0, 0), (81, .getfield 19, 0, 1, 0)]
def zm_c51_6 : List (Nat × zm_I) := [(84, .aload 4, 0, 0, 0), (86, .getfield 203, 3, 1, 0), (89, .aload 6, 0, 0, 0), (91, .invokevirtual 194, 0, 0, 0), (94, .areturn, 0, 0, 0), (95, .aload_n 0, 0, 0, 0)]
def zm_c51_7 : List (Nat × zm_I) := [(96, .aload 5, 0, 0, 0), (98, .aload 6, 0, 0, 0), (100, .iload_n 3, 0, 0, 0), (101, .invokevirtual 190, 0, 0, 0), (104, .areturn, 0, 0, 0)]
def zm_g51 (pc : Nat) : Option zm_I := cond (Nat.blt pc 55) (cond (Nat.blt pc 20) (cond (Nat.blt pc 8) (zm_lk zm_c51_0 pc) (zm_lk zm_c51_1 pc)) (cond (Nat.blt pc 44) (zm_lk zm_c51_2 pc) (zm_lk zm_c51_3 pc))) (cond (Nat.blt pc 84) (cond (Nat.blt pc 69) (zm_lk zm_c51_4 pc) (zm_lk zm_c51_5 pc)) (cond (Nat.blt pc 96) (zm_lk zm_c51_6 pc) (zm_lk zm_c51_7 pc)))
/-- NeedMachine$Store.makeArguments(LNeedMachine$Arguments;LNeedMachine$Closure;)LNeedMachine$Arguments; -/
def zm_c52_0 : List (Nat × zm_I) := [(0, .aload_n 0, 0, 0, 0), (1, .getfield 41, 2, 6, 0), (4, .aload_n 0, 0, 0, 0), (5, .getfield 32, 2, 3, 0), (8, .invokevirtual 62, 0, 0, 0), (11, .if_icmp .lt 18, 0, 0, 0)]
def zm_c52_1 : List (Nat × zm_I) := [(14, .aload_n 0, 0, 0, 0), (15, .getfield 32, 2, 3, 0), (18, .new 91, 9, 0, 0), (21, .dup, 0, 0, 0), (22, .invokespecial 93, 0, 0, 0), (25, .invokevirtual 69, 0, 0, 0)]
def zm_c52_2 : List (Nat × zm_I) := [(28, .pop, 0, 0, 0), (29, .aload_n 0, 0, 0, 0), (30, .getfield 32, 2, 3, 0), (33, .aload_n 0, 0, 0, 0), (34, .getfield 41, 2, 6, 0), (37, .invokevirtual 73, 0, 0, 0)]
def zm_c52_3 : List (Nat × zm_I) := [(40, .checkcast 91, 9, 0, 0), (43, .astore_n 3, 0, 0, 0), (44, .aload_n 0, 0, 0, 0), (45, .dup, 0, 0, 0), (46, .getfield 41, 2, 6, 0), (49, .iconst 1, 0, 0, 0)]
def zm_c52_4 : List (Nat × zm_I) := [(50, .iadd, 0, 0, 0), (51, .putfield 41, 2, 6, 0), (54, .aload_n 3, 0, 0, 0), (55, .aload_n 1, 0, 0, 0), (56, .putfield 94, 9, 0, 0), (59, .aload_n 3, 0, 0, 0)]
def zm_c52_5 : List (Nat × zm_I) := [(60, .aload_n 2, 0, 0, 0), (61, .putfield 97, 9, 1, 0), (64, .aload_n 3, 0, 0, 0), (65, .aload_n 1, 0, 0, 0), (66, .ifnonnull 7, 0, 0, 0), (69, .iconst 1, 0, 0, 0)]
def zm_c52_6 : List (Nat × zm_I) := [(70, .goto 9, 0, 0, 0), (73, .aload_n 1, 0, 0, 0), (74, .getfield 100, 9, 2, 0), (77, .iconst 1, 0, 0, 0), (78, .iadd, 0, 0, 0), (79, .putfield 100, 9, 2, 0)]
def zm_c52_7 : List (Nat × zm_I) := [(82, .aload_n 3, 0, 0, 0), (83, .areturn, 0, 0, 0)]
def zm_g52 (pc : Nat) : Option zm_I := cond (Nat.blt pc 50) (cond (Nat.blt pc 28) (cond (Nat.blt pc 14) (zm_lk zm_c52_0 pc) (zm_lk zm_c52_1 pc)) (cond (Nat.blt pc 40) (zm_lk zm_c52_2 pc) (zm_lk zm_c52_3 pc))) (cond (Nat.blt pc 70) (cond (Nat.blt pc 60) (zm_lk zm_c52_4 pc) (zm_lk zm_c52_5 pc)) (cond (Nat.blt pc 82) (zm_lk zm_c52_6 pc) (zm_lk zm_c52_7 pc)))
/-- NeedMachine$Arguments.<init>()V -/
def zm_c53_0 : List (Nat × zm_I) := [(0, .aload_n 0, 0, 0, 0), (1, .invokespecial 1, 0, 0, 0), (4, .return_, 0, 0, 0)]
def zm_g53 (pc : Nat) : Option zm_I := zm_lk zm_c53_0 pc
/-- NeedMachine.mustBePair(LNeedMachine$Value;)LNeedMachine$Value; -/
def zm_c54_0 : List (Nat × zm_I) := [(0, .aload_n 0, 0, 0, 0), (1, .getfield 65, 3, 0, 0), (4, .iconst 1, 0, 0, 0), (5, .if_icmp .ne 14, 0, 0, 0), (19, .aload_n 0, 0, 0, 0), (20, .getfield 65, 3, 0, 0)]
def zm_c54_1 : List (Nat × zm_I) := [(23, .iconst 2, 0, 0, 0), (24, .if_icmp .eq 14, 0, 0, 0), (38, .aload_n 0, 0, 0, 0), (39, .areturn, 0, 0, 0)]
def zm_g54 (pc : Nat) : Option zm_I := cond (Nat.blt pc 23) (zm_lk zm_c54_0 pc) (zm_lk zm_c54_1 pc)
/-- NeedMachine.isNil(LNeedMachine$Value;)I -/
def zm_c55_0 : List (Nat × zm_I) := [(0, .aload_n 0, 0, 0, 0), (1, .getfield 65, 3, 0, 0), (4, .iconst 1, 0, 0, 0), (5, .if_icmp .eq 22, 0, 0, 0), (8, .aload_n 0, 0, 0, 0), (9, .getfield 65, 3, 0, 0)]
def zm_c55_1 : List (Nat × zm_I) := [(12, .iconst 2, 0, 0, 0), (13, .if_icmp .eq 14, 0, 0, 0), (27, .aload_n 0, 0, 0, 0), (28, .getfield 65, 3, 0, 0), (31, .iconst 1, 0, 0, 0), (32, .if_icmp .ne 7, 0, 0, 0)]
def zm_c55_2 : List (Nat × zm_I) := [(35, .iconst 1, 0, 0, 0), (36, .goto 4, 0, 0, 0), (39, .iconst 0, 0, 0, 0), (40, .ireturn, 0, 0, 0)]
def zm_g55 (pc : Nat) : Option zm_I := cond (Nat.blt pc 12) (zm_lk zm_c55_0 pc) (cond (Nat.blt pc 35) (zm_lk zm_c55_1 pc) (zm_lk zm_c55_2 pc))
/-- NeedMachine.choose(LNeedMachine$Expression;LNeedMachine$Arguments;I)LNeedMachine$Value; -/
def zm_c56_0 : List (Nat × zm_I) := [(0, .aload_n 0, 0, 0, 0), (1, .aload_n 1, 0, 0, 0), (2, .getfield 163, 7, 2, 0), (5, .aload_n 2, 0, 0, 0), (6, .iload_n 3, 0, 0, 0), (7, .iconst 1, 0, 0, 0)]
def zm_c56_1 : List (Nat × zm_I) := [(8, .iadd, 0, 0, 0), (9, .invokevirtual 61, 0, 0, 0), (12, .invokestatic 77, 0, 0, 0), (15, .istore 4, 0, 0, 0), (17, .aload_n 0, 0, 0, 0), (18, .iload 4, 0, 0, 0)]
def zm_c56_2 : List (Nat × zm_I) := [(20, .ifCond .eq 10, 0, 0, 0), (23, .aload_n 1, 0, 0, 0), (24, .getfield 171, 7, 3, 0), (27, .goto 7, 0, 0, 0), (30, .aload_n 1, 0, 0, 0), (31, .getfield 224, 7, 4, 0)]
def zm_c56_3 : List (Nat × zm_I) := [(34, .aload_n 2, 0, 0, 0), (35, .iload_n 3, 0, 0, 0), (36, .iconst 1, 0, 0, 0), (37, .iadd, 0, 0, 0), (38, .invokevirtual 61, 0, 0, 0), (41, .areturn, 0, 0, 0)]
def zm_g56 (pc : Nat) : Option zm_I := cond (Nat.blt pc 20) (cond (Nat.blt pc 8) (zm_lk zm_c56_0 pc) (zm_lk zm_c56_1 pc)) (cond (Nat.blt pc 34) (zm_lk zm_c56_2 pc) (zm_lk zm_c56_3 pc))
/-- NeedMachine.mustBeNumber(LNeedMachine$Value;)I -/
def zm_c57_0 : List (Nat × zm_I) := [(0, .aload_n 0, 0, 0, 0), (1, .getfield 65, 3, 0, 0), (4, .ifCond .eq 14, 0, 0, 0), (18, .aload_n 0, 0, 0, 0), (19, .getfield 203, 3, 1, 0), (22, .ireturn, 0, 0, 0)]
def zm_g57 (pc : Nat) : Option zm_I := zm_lk zm_c57_0 pc
/-- NeedMachine.reckon(LNeedMachine$Expression;LNeedMachine$Arguments;I)LNeedMachine$Value; -/
def zm_c58_0 : List (Nat × zm_I) := [(0, .aload_n 0, 0, 0, 0), (1, .aload_n 1, 0, 0, 0), (2, .getfield 163, 7, 2, 0), (5, .aload_n 2, 0, 0, 0), (6, .iload_n 3, 0, 0, 0), (7, .iconst 1, 0, 0, 0)]
def zm_c58_1 : List (Nat × zm_I) := [(8, .iadd, 0, 0, 0), (9, .invokevirtual 61, 0, 0, 0), (12, .invokestatic 77, 0, 0, 0), (15, .istore 4, 0, 0, 0), (17, .aload_n 0, 0, 0, 0), (18, .aload_n 1, 0, 0, 0)]
def zm_c58_2 : List (Nat × zm_I) := [(19, .getfield 171, 7, 3, 0), (22, .aload_n 2, 0, 0, 0), (23, .iload_n 3, 0, 0, 0), (24, .iconst 1, 0, 0, 0), (25, .iadd, 0, 0, 0), (26, .invokevirtual 61, 0, 0, 0)]
def zm_c58_3 : List (Nat × zm_I) := [(29, .invokestatic 77, 0, 0, 0), (32, .istore 5, 0, 0, 0), (34, .aload_n 0, 0, 0, 0), (35, .getfield 19, 0, 1, 0), (38, .aload_n 1, 0, 0, 0), (39, .getfield 139, 7, 0, 0)]
def zm_c58_4 : List (Nat × zm_I) := [(42, .iload 4, 0, 0, 0), (44, .iload 5, 0, 0, 0), (46, .invokestatic 227, 0, 0, 0), (49, .invokevirtual 148, 0, 0, 0), (52, .areturn, 0, 0, 0)]
def zm_g58 (pc : Nat) : Option zm_I := cond (Nat.blt pc 19) (cond (Nat.blt pc 8) (zm_lk zm_c58_0 pc) (zm_lk zm_c58_1 pc)) (cond (Nat.blt pc 29) (zm_lk zm_c58_2 pc) (cond (Nat.blt pc 42) (zm_lk zm_c58_3 pc) (zm_lk zm_c58_4 pc)))
/-- NeedMachine.reckonNumbers(CII)I -/
def zm_c59_0 : List (Nat × zm_I) := [(0, .iload_n 0, 0, 0, 0), (1, .lookupswitch 96 #[(37, 78), (42, 67), (43, 59), (45, 63), (47, 71), (60, 85)], 59, 0, 0), (60, .iload_n 1, 0, 0, 0), (61, .iload_n 2, 0, 0, 0), (62, .iadd, 0, 0, 0), (63, .ireturn, 0, 0, 0)]
def zm_c59_1 : List (Nat × zm_I) := [(64, .iload_n 1, 0, 0, 0), (65, .iload_n 2, 0, 0, 0), (66, .isub, 0, 0, 0), (67, .ireturn, 0, 0, 0), (68, .iload_n 1, 0, 0, 0), (69, .iload_n 2, 0, 0, 0)]
def zm_c59_2 : List (Nat × zm_I) := [(70, .imul, 0, 0, 0), (71, .ireturn, 0, 0, 0), (72, .iload_n 1, 0, 0, 0), (73, .iload_n 2, 0, 0, 0), (74, .invokestatic 231, 0, 0, 0), (77, .idiv, 0, 0, 0)]
def zm_c59_3 : List (Nat × zm_I) := [(78, .ireturn, 0, 0, 0), (79, .iload_n 1, 0, 0, 0), (80, .iload_n 2, 0, 0, 0), (81, .invokestatic 231, 0, 0, 0), (84, .irem, 0, 0, 0), (85, .ireturn, 0, 0, 0)]
def zm_c59_4 : List (Nat × zm_I) := [(86, .iload_n 1, 0, 0, 0), (87, .iload_n 2, 0, 0, 0), (88, .if_icmp .ge 7, 0, 0, 0), (91, .iconst 1, 0, 0, 0), (92, .goto 4, 0, 0, 0), (95, .iconst 0, 0, 0, 0)]
def zm_c59_5 : List (Nat × zm_I) := [(96, .ireturn, 0, 0, 0), (97, .iload_n 1, 0, 0, 0), (98, .iload_n 2, 0, 0, 0), (99, .if_icmp .ne 7, 0, 0, 0), (102, .iconst 1, 0, 0, 0), (103, .goto 4, 0, 0, 0)]
def zm_c59_6 : List (Nat × zm_I) := [(106, .iconst 0, 0, 0, 0), (107, .ireturn, 0, 0, 0)]
def zm_g59 (pc : Nat) : Option zm_I := cond (Nat.blt pc 78) (cond (Nat.blt pc 64) (zm_lk zm_c59_0 pc) (cond (Nat.blt pc 70) (zm_lk zm_c59_1 pc) (zm_lk zm_c59_2 pc))) (cond (Nat.blt pc 96) (cond (Nat.blt pc 86) (zm_lk zm_c59_3 pc) (zm_lk zm_c59_4 pc)) (cond (Nat.blt pc 106) (zm_lk zm_c59_5 pc) (zm_lk zm_c59_6 pc)))
/-- NeedMachine.mustNotBeZero(I)I -/
def zm_c60_0 : List (Nat × zm_I) := [(0, .iload_n 0, 0, 0, 0), (1, .ifCond .ne 14, 0, 0, 0), (15, .iload_n 0, 0, 0, 0), (16, .ireturn, 0, 0, 0)]
def zm_g60 (pc : Nat) : Option zm_I := zm_lk zm_c60_0 pc
/-- NeedMachineLaw.number(LNeedMachine;[J)I -/
def zm_c61_0 : List (Nat × zm_I) := [(0, .aload_n 1, 0, 0, 0), (1, .iconst 0, 0, 0, 0), (2, .aload_n 0, 0, 0, 0), (3, .invokevirtual 30, 0, 0, 0), (6, .i2l, 0, 0, 0), (7, .lastore, 0, 0, 0)]
def zm_c61_1 : List (Nat × zm_I) := [(8, .goto 9, 0, 0, 0), (11, .astore_n 2, 0, 0, 0), (12, .iconst 1, 0, 0, 0), (13, .ireturn, 0, 0, 0), (14, .astore_n 2, 0, 0, 0), (15, .iconst 2, 0, 0, 0)]
def zm_c61_2 : List (Nat × zm_I) := [(16, .ireturn, 0, 0, 0), (17, .iconst 0, 0, 0, 0), (18, .ireturn, 0, 0, 0)]
def zm_g61 (pc : Nat) : Option zm_I := cond (Nat.blt pc 8) (zm_lk zm_c61_0 pc) (cond (Nat.blt pc 16) (zm_lk zm_c61_1 pc) (zm_lk zm_c61_2 pc))
/-- NeedMachine.number()I -/
def zm_c62_0 : List (Nat × zm_I) := [(0, .aload_n 0, 0, 0, 0), (1, .getfield 48, 0, 3, 0), (4, .ifnonnull 13, 0, 0, 0), (17, .aload_n 0, 0, 0, 0), (18, .getfield 48, 0, 3, 0), (21, .invokestatic 77, 0, 0, 0)]
def zm_c62_1 : List (Nat × zm_I) := [(24, .ireturn, 0, 0, 0)]
def zm_g62 (pc : Nat) : Option zm_I := cond (Nat.blt pc 24) (zm_lk zm_c62_0 pc) (zm_lk zm_c62_1 pc)
/-- NeedMachineLaw.head(LNeedMachine;[J)I -/
def zm_c63_0 : List (Nat × zm_I) := [(0, .aload_n 1, 0, 0, 0), (1, .iconst 0, 0, 0, 0), (2, .aload_n 0, 0, 0, 0), (3, .invokevirtual 33, 0, 0, 0), (6, .i2l, 0, 0, 0), (7, .lastore, 0, 0, 0)]
def zm_c63_1 : List (Nat × zm_I) := [(8, .goto 15, 0, 0, 0), (11, .astore_n 2, 0, 0, 0), (12, .iconst 1, 0, 0, 0), (13, .ireturn, 0, 0, 0), (14, .astore_n 2, 0, 0, 0), (15, .iconst 2, 0, 0, 0)]
def zm_c63_2 : List (Nat × zm_I) := [(16, .ireturn, 0, 0, 0), (17, .astore_n 2, 0, 0, 0), (18, .iconst 3, 0, 0, 0), (19, .ireturn, 0, 0, 0), (20, .astore_n 2, 0, 0, 0), (21, .iconst 4, 0, 0, 0)]
def zm_c63_3 : List (Nat × zm_I) := [(22, .ireturn, 0, 0, 0), (23, .iconst 0, 0, 0, 0), (24, .ireturn, 0, 0, 0)]
def zm_g63 (pc : Nat) : Option zm_I := cond (Nat.blt pc 16) (cond (Nat.blt pc 8) (zm_lk zm_c63_0 pc) (zm_lk zm_c63_1 pc)) (cond (Nat.blt pc 22) (zm_lk zm_c63_2 pc) (zm_lk zm_c63_3 pc))
/-- NeedMachine.head()I -/
def zm_c64_0 : List (Nat × zm_I) := [(0, .aload_n 0, 0, 0, 0), (1, .invokevirtual 81, 0, 0, 0), (4, .astore_n 1, 0, 0, 0), (5, .aload_n 0, 0, 0, 0), (6, .aload_n 1, 0, 0, 0), (7, .getfield 85, 3, 2, 0)]
def zm_c64_1 : List (Nat × zm_I) := [(10, .iconst 0, 0, 0, 0), (11, .invokevirtual 89, 0, 0, 0), (14, .invokestatic 77, 0, 0, 0), (17, .istore_n 2, 0, 0, 0), (18, .aload_n 0, 0, 0, 0), (19, .aload_n 1, 0, 0, 0)]
def zm_c64_2 : List (Nat × zm_I) := [(20, .putfield 48, 0, 3, 0), (23, .iload_n 2, 0, 0, 0), (24, .ireturn, 0, 0, 0)]
def zm_g64 (pc : Nat) : Option zm_I := cond (Nat.blt pc 10) (zm_lk zm_c64_0 pc) (cond (Nat.blt pc 20) (zm_lk zm_c64_1 pc) (zm_lk zm_c64_2 pc))
/-- NeedMachine.takeResultPair()LNeedMachine$Value; -/
def zm_c65_0 : List (Nat × zm_I) := [(0, .aload_n 0, 0, 0, 0), (1, .getfield 48, 0, 3, 0), (4, .astore_n 1, 0, 0, 0), (5, .aload_n 0, 0, 0, 0), (6, .aconst_null, 0, 0, 0), (7, .putfield 48, 0, 3, 0)]
def zm_c65_1 : List (Nat × zm_I) := [(10, .aload_n 1, 0, 0, 0), (11, .ifnonnull 13, 0, 0, 0), (24, .aload_n 1, 0, 0, 0), (25, .invokestatic 124, 0, 0, 0), (28, .areturn, 0, 0, 0)]
def zm_g65 (pc : Nat) : Option zm_I := cond (Nat.blt pc 10) (zm_lk zm_c65_0 pc) (zm_lk zm_c65_1 pc)
/-- NeedMachineLaw.tail(LNeedMachine;[J)I -/
def zm_c66_0 : List (Nat × zm_I) := [(0, .aload_n 1, 0, 0, 0), (1, .iconst 0, 0, 0, 0), (2, .aload_n 0, 0, 0, 0), (3, .invokevirtual 36, 0, 0, 0), (6, .i2l, 0, 0, 0), (7, .lastore, 0, 0, 0)]
def zm_c66_1 : List (Nat × zm_I) := [(8, .goto 15, 0, 0, 0), (11, .astore_n 2, 0, 0, 0), (12, .iconst 1, 0, 0, 0), (13, .ireturn, 0, 0, 0), (14, .astore_n 2, 0, 0, 0), (15, .iconst 2, 0, 0, 0)]
def zm_c66_2 : List (Nat × zm_I) := [(16, .ireturn, 0, 0, 0), (17, .astore_n 2, 0, 0, 0), (18, .iconst 3, 0, 0, 0), (19, .ireturn, 0, 0, 0), (20, .astore_n 2, 0, 0, 0), (21, .iconst 4, 0, 0, 0)]
def zm_c66_3 : List (Nat × zm_I) := [(22, .ireturn, 0, 0, 0), (23, .iconst 0, 0, 0, 0), (24, .ireturn, 0, 0, 0)]
def zm_g66 (pc : Nat) : Option zm_I := cond (Nat.blt pc 16) (cond (Nat.blt pc 8) (zm_lk zm_c66_0 pc) (zm_lk zm_c66_1 pc)) (cond (Nat.blt pc 22) (zm_lk zm_c66_2 pc) (zm_lk zm_c66_3 pc))
/-- NeedMachine.tail()I -/
def zm_c67_0 : List (Nat × zm_I) := [(0, .aload_n 0, 0, 0, 0), (1, .invokevirtual 81, 0, 0, 0), (4, .astore_n 1, 0, 0, 0), (5, .aload_n 0, 0, 0, 0), (6, .aload_n 0, 0, 0, 0), (7, .aload_n 1, 0, 0, 0)]
def zm_c67_1 : List (Nat × zm_I) := [(8, .getfield 93, 3, 3, 0), (11, .iconst 0, 0, 0, 0), (12, .invokevirtual 89, 0, 0, 0), (15, .putfield 48, 0, 3, 0), (18, .aload_n 0, 0, 0, 0), (19, .getfield 48, 0, 3, 0)]
def zm_c67_2 : List (Nat × zm_I) := [(22, .getfield 65, 3, 0, 0), (25, .ireturn, 0, 0, 0)]
def zm_g67 (pc : Nat) : Option zm_I := cond (Nat.blt pc 8) (zm_lk zm_c67_0 pc) (cond (Nat.blt pc 22) (zm_lk zm_c67_1 pc) (zm_lk zm_c67_2 pc))
/-- NeedMachineLaw.remove(LNeedMachine;I)I -/
def zm_c68_0 : List (Nat × zm_I) := [(0, .aload_n 0, 0, 0, 0), (1, .iload_n 1, 0, 0, 0), (2, .invokevirtual 39, 0, 0, 0), (5, .goto 9, 0, 0, 0), (8, .astore_n 2, 0, 0, 0), (9, .iconst 1, 0, 0, 0)]
def zm_c68_1 : List (Nat × zm_I) := [(10, .ireturn, 0, 0, 0), (11, .astore_n 2, 0, 0, 0), (12, .iconst 2, 0, 0, 0), (13, .ireturn, 0, 0, 0), (14, .iconst 0, 0, 0, 0), (15, .ireturn, 0, 0, 0)]
def zm_g68 (pc : Nat) : Option zm_I := cond (Nat.blt pc 10) (zm_lk zm_c68_0 pc) (zm_lk zm_c68_1 pc)
/-- NeedMachine.remove(I)V -/
def zm_c69_0 : List (Nat × zm_I) := [(0, .iload_n 1, 0, 0, 0), (1, .ifCond .lt 9, 0, 0, 0), (4, .iload_n 1, 0, 0, 0), (5, .bipush 6, 0, 0, 0), (7, .if_icmp .lt 13, 0, 0, 0), (20, .aload_n 0, 0, 0, 0)]
def zm_c69_1 : List (Nat × zm_I) := [(21, .iload_n 1, 0, 0, 0), (22, .invokevirtual 101, 0, 0, 0), (25, .pop, 0, 0, 0), (26, .aload_n 0, 0, 0, 0), (27, .getfield 25, 0, 2, 0), (30, .iload_n 1, 0, 0, 0)]
def zm_c69_2 : List (Nat × zm_I) := [(31, .aconst_null, 0, 0, 0), (32, .aastore, 0, 0, 0), (33, .return_, 0, 0, 0)]
def zm_g69 (pc : Nat) : Option zm_I := cond (Nat.blt pc 21) (zm_lk zm_c69_0 pc) (cond (Nat.blt pc 31) (zm_lk zm_c69_1 pc) (zm_lk zm_c69_2 pc))
/-- NeedMachineModel.<init>()V -/
def zm_c70_0 : List (Nat × zm_I) := [(0, .aload_n 0, 0, 0, 0), (1, .invokespecial 1, 0, 0, 0), (4, .aload_n 0, 0, 0, 0), (5, .bipush 40, 0, 0, 0), (7, .newarray .int, 0, 0, 0), (9, .putfield 7, 5, 0, 0)]
def zm_c70_1 : List (Nat × zm_I) := [(12, .aload_n 0, 0, 0, 0), (13, .sipush 21200, 0, 0, 0), (16, .newarray .int, 0, 0, 0), (18, .putfield 13, 5, 1, 0), (21, .aload_n 0, 0, 0, 0), (22, .sipush 240, 0, 0, 0)]
def zm_c70_2 : List (Nat × zm_I) := [(25, .newarray .int, 0, 0, 0), (27, .putfield 16, 5, 2, 0), (30, .aload_n 0, 0, 0, 0), (31, .bipush 6, 0, 0, 0), (33, .newarray .int, 0, 0, 0), (35, .putfield 19, 5, 3, 0)]
def zm_c70_3 : List (Nat × zm_I) := [(38, .aload_n 0, 0, 0, 0), (39, .bipush 24, 0, 0, 0), (41, .newarray .int, 0, 0, 0), (43, .putfield 22, 5, 4, 0), (46, .aload_n 0, 0, 0, 0), (47, .bipush 6, 0, 0, 0)]
def zm_c70_4 : List (Nat × zm_I) := [(49, .newarray .int, 0, 0, 0), (51, .putfield 25, 5, 5, 0), (54, .aload_n 0, 0, 0, 0), (55, .bipush 16, 0, 0, 0), (57, .newarray .int, 0, 0, 0), (59, .putfield 28, 5, 6, 0)]
def zm_c70_5 : List (Nat × zm_I) := [(62, .aload_n 0, 0, 0, 0), (63, .bipush 6, 0, 0, 0), (65, .newarray .boolean, 3, 0, 0), (67, .putfield 31, 5, 7, 0), (70, .aload_n 0, 0, 0, 0), (71, .iconst (-1), 0, 0, 0)]
def zm_c70_6 : List (Nat × zm_I) := [(72, .putfield 35, 5, 9, 0), (75, .aload_n 0, 0, 0, 0), (76, .sipush 16400, 0, 0, 0), (79, .newarray .int, 0, 0, 0), (81, .putfield 39, 5, 13, 0), (84, .aload_n 0, 0, 0, 0)]
def zm_c70_7 : List (Nat × zm_I) := [(85, .sipush 16400, 0, 0, 0), (88, .newarray .int, 0, 0, 0), (90, .putfield 42, 5, 14, 0), (93, .aload_n 0, 0, 0, 0), (94, .sipush 16400, 0, 0, 0), (97, .newarray .int, 0, 0, 0)]
def zm_c70_8 : List (Nat × zm_I) := [(99, .putfield 45, 5, 15, 0), (102, .aload_n 0, 0, 0, 0), (103, .sipush 16400, 0, 0, 0), (106, .newarray .int, 0, 0, 0), (108, .putfield 48, 5, 16, 0), (111, .aload_n 0, 0, 0, 0)]
def zm_c70_9 : List (Nat × zm_I) := [(112, .sipush 16400, 0, 0, 0), (115, .newarray .int, 0, 0, 0), (117, .putfield 51, 5, 17, 0), (120, .aload_n 0, 0, 0, 0), (121, .sipush 16400, 0, 0, 0), (124, .newarray .int, 0, 0, 0)]
def zm_c70_10 : List (Nat × zm_I) := [(126, .putfield 54, 5, 18, 0), (129, .aload_n 0, 0, 0, 0), (130, .sipush 1700, 0, 0, 0), (133, .newarray .int, 0, 0, 0), (135, .putfield 57, 5, 19, 0), (138, .aload_n 0, 0, 0, 0)]
def zm_c70_11 : List (Nat × zm_I) := [(139, .sipush 1700, 0, 0, 0), (142, .newarray .int, 0, 0, 0), (144, .putfield 60, 5, 20, 0), (147, .aload_n 0, 0, 0, 0), (148, .sipush 16400, 0, 0, 0), (151, .newarray .int, 0, 0, 0)]
def zm_c70_12 : List (Nat × zm_I) := [(153, .putfield 63, 5, 21, 0), (156, .aload_n 0, 0, 0, 0), (157, .sipush 16400, 0, 0, 0), (160, .newarray .int, 0, 0, 0), (162, .putfield 66, 5, 22, 0), (165, .aload_n 0, 0, 0, 0)]
def zm_c70_13 : List (Nat × zm_I) := [(166, .bipush 64, 0, 0, 0), (168, .newarray .int, 0, 0, 0), (170, .putfield 69, 5, 26, 0), (173, .aload_n 0, 0, 0, 0), (174, .bipush 64, 0, 0, 0), (176, .newarray .int, 0, 0, 0)]
def zm_c70_14 : List (Nat × zm_I) := [(178, .putfield 72, 5, 27, 0), (181, .aload_n 0, 0, 0, 0), (182, .bipush 64, 0, 0, 0), (184, .newarray .int, 0, 0, 0), (186, .putfield 75, 5, 28, 0), (189, .aload_n 0, 0, 0, 0)]
def zm_c70_15 : List (Nat × zm_I) := [(190, .bipush 64, 0, 0, 0), (192, .newarray .int, 0, 0, 0), (194, .putfield 78, 5, 29, 0), (197, .aload_n 0, 0, 0, 0), (198, .bipush 64, 0, 0, 0), (200, .newarray .int, 0, 0, 0)]
def zm_c70_16 : List (Nat × zm_I) := [(202, .putfield 81, 5, 30, 0), (205, .return_, 0, 0, 0)]
def zm_g70 (pc : Nat) : Option zm_I := cond (Nat.blt pc 99) (cond (Nat.blt pc 49) (cond (Nat.blt pc 25) (cond (Nat.blt pc 12) (zm_lk zm_c70_0 pc) (zm_lk zm_c70_1 pc)) (cond (Nat.blt pc 38) (zm_lk zm_c70_2 pc) (zm_lk zm_c70_3 pc))) (cond (Nat.blt pc 72) (cond (Nat.blt pc 62) (zm_lk zm_c70_4 pc) (zm_lk zm_c70_5 pc)) (cond (Nat.blt pc 85) (zm_lk zm_c70_6 pc) (zm_lk zm_c70_7 pc)))) (cond (Nat.blt pc 153) (cond (Nat.blt pc 126) (cond (Nat.blt pc 112) (zm_lk zm_c70_8 pc) (zm_lk zm_c70_9 pc)) (cond (Nat.blt pc 139) (zm_lk zm_c70_10 pc) (zm_lk zm_c70_11 pc))) (cond (Nat.blt pc 178) (cond (Nat.blt pc 166) (zm_lk zm_c70_12 pc) (zm_lk zm_c70_13 pc)) (cond (Nat.blt pc 190) (zm_lk zm_c70_14 pc) (cond (Nat.blt pc 202) (zm_lk zm_c70_15 pc) (zm_lk zm_c70_16 pc)))))
/-- NeedMachineModel.type(J)I -/
def zm_c71_0 : List (Nat × zm_I) := [(0, .iconst 0, 0, 0, 0), (1, .istore_n 3, 0, 0, 0), (2, .iconst 1, 0, 0, 0), (3, .istore 4, 0, 0, 0), (5, .bipush 56, 0, 0, 0), (7, .istore 5, 0, 0, 0)]
def zm_c71_1 : List (Nat × zm_I) := [(9, .iload 5, 0, 0, 0), (11, .ifCond .lt 48, 0, 0, 0), (14, .lload_n 1, 0, 0, 0), (15, .iload 5, 0, 0, 0), (17, .lushr, 0, 0, 0), (18, .l2i, 0, 0, 0)]
def zm_c71_2 : List (Nat × zm_I) := [(19, .sipush 255, 0, 0, 0), (22, .iand, 0, 0, 0), (23, .istore 6, 0, 0, 0), (25, .iload 6, 0, 0, 0), (27, .ifCond .eq 6, 0, 0, 0), (30, .iinc 3 1, 0, 0, 0)]
def zm_c71_3 : List (Nat × zm_I) := [(33, .iload 6, 0, 0, 0), (35, .ifCond .eq 18, 0, 0, 0), (38, .iload 6, 0, 0, 0), (40, .bipush 33, 0, 0, 0), (42, .bipush 126, 0, 0, 0), (44, .invokestatic 87, 0, 0, 0)]
def zm_c71_4 : List (Nat × zm_I) := [(47, .ifCond .ne 6, 0, 0, 0), (50, .iconst 0, 0, 0, 0), (51, .istore 4, 0, 0, 0), (53, .iinc 5 (-8), 0, 0, 0), (56, .goto (-47), 0, 0, 0), (59, .aload_n 0, 0, 0, 0)]
def zm_c71_5 : List (Nat × zm_I) := [(60, .iload 4, 0, 0, 0), (62, .invokevirtual 91, 0, 0, 0), (65, .ifCond .eq 5, 0, 0, 0), (68, .iconst 0, 0, 0, 0), (69, .ireturn, 0, 0, 0), (70, .aload_n 0, 0, 0, 0)]
def zm_c71_6 : List (Nat × zm_I) := [(71, .getfield 95, 5, 8, 0), (74, .iload_n 3, 0, 0, 0), (75, .iadd, 0, 0, 0), (76, .bipush 40, 0, 0, 0), (78, .if_icmp .le 9, 0, 0, 0), (81, .aload_n 0, 0, 0, 0)]
def zm_c71_7 : List (Nat × zm_I) := [(82, .iconst 2, 0, 0, 0), (83, .invokevirtual 98, 0, 0, 0), (86, .ireturn, 0, 0, 0), (87, .bipush 56, 0, 0, 0), (89, .istore 5, 0, 0, 0), (91, .iload 5, 0, 0, 0)]
def zm_c71_8 : List (Nat × zm_I) := [(93, .ifCond .lt 49, 0, 0, 0), (96, .lload_n 1, 0, 0, 0), (97, .iload 5, 0, 0, 0), (99, .lushr, 0, 0, 0), (100, .l2i, 0, 0, 0), (101, .sipush 255, 0, 0, 0)]
def zm_c71_9 : List (Nat × zm_I) := [(104, .iand, 0, 0, 0), (105, .istore 6, 0, 0, 0), (107, .iload 6, 0, 0, 0), (109, .ifCond .ne 6, 0, 0, 0), (112, .goto 24, 0, 0, 0), (115, .aload_n 0, 0, 0, 0)]
def zm_c71_10 : List (Nat × zm_I) := [(116, .getfield 7, 5, 0, 0), (119, .aload_n 0, 0, 0, 0), (120, .getfield 95, 5, 8, 0), (123, .iload 6, 0, 0, 0), (125, .iastore, 0, 0, 0), (126, .aload_n 0, 0, 0, 0)]
def zm_c71_11 : List (Nat × zm_I) := [(127, .dup, 0, 0, 0), (128, .getfield 95, 5, 8, 0), (131, .iconst 1, 0, 0, 0), (132, .iadd, 0, 0, 0), (133, .putfield 95, 5, 8, 0), (136, .iinc 5 (-8), 0, 0, 0)]
def zm_c71_12 : List (Nat × zm_I) := [(139, .goto (-48), 0, 0, 0), (142, .aload_n 0, 0, 0, 0), (143, .getfield 95, 5, 8, 0), (146, .ireturn, 0, 0, 0)]
def zm_g71 (pc : Nat) : Option zm_I := cond (Nat.blt pc 71) (cond (Nat.blt pc 33) (cond (Nat.blt pc 9) (zm_lk zm_c71_0 pc) (cond (Nat.blt pc 19) (zm_lk zm_c71_1 pc) (zm_lk zm_c71_2 pc))) (cond (Nat.blt pc 47) (zm_lk zm_c71_3 pc) (cond (Nat.blt pc 60) (zm_lk zm_c71_4 pc) (zm_lk zm_c71_5 pc)))) (cond (Nat.blt pc 104) (cond (Nat.blt pc 82) (zm_lk zm_c71_6 pc) (cond (Nat.blt pc 93) (zm_lk zm_c71_7 pc) (zm_lk zm_c71_8 pc))) (cond (Nat.blt pc 127) (cond (Nat.blt pc 116) (zm_lk zm_c71_9 pc) (zm_lk zm_c71_10 pc)) (cond (Nat.blt pc 139) (zm_lk zm_c71_11 pc) (zm_lk zm_c71_12 pc))))
/-- NeedMachineModel.between(III)Z -/
def zm_c72_0 : List (Nat × zm_I) := [(0, .iload_n 0, 0, 0, 0), (1, .iload_n 1, 0, 0, 0), (2, .if_icmp .lt 12, 0, 0, 0), (5, .iload_n 0, 0, 0, 0), (6, .iload_n 2, 0, 0, 0), (7, .if_icmp .gt 7, 0, 0, 0)]
def zm_c72_1 : List (Nat × zm_I) := [(10, .iconst 1, 0, 0, 0), (11, .goto 4, 0, 0, 0), (14, .iconst 0, 0, 0, 0), (15, .ireturn, 0, 0, 0)]
def zm_g72 (pc : Nat) : Option zm_I := cond (Nat.blt pc 10) (zm_lk zm_c72_0 pc) (zm_lk zm_c72_1 pc)
/-- NeedMachineModel.bad(Z)Z -/
def zm_c73_0 : List (Nat × zm_I) := [(0, .aload_n 0, 0, 0, 0), (1, .iload_n 1, 0, 0, 0), (2, .ifCond .eq 7, 0, 0, 0), (5, .iconst 0, 0, 0, 0), (6, .goto 4, 0, 0, 0), (9, .iconst 1, 0, 0, 0)]
def zm_c73_1 : List (Nat × zm_I) := [(10, .putfield 84, 5, 12, 0), (13, .iload_n 1, 0, 0, 0), (14, .ifCond .ne 7, 0, 0, 0), (17, .iconst 1, 0, 0, 0), (18, .goto 4, 0, 0, 0), (21, .iconst 0, 0, 0, 0)]
def zm_c73_2 : List (Nat × zm_I) := [(22, .ireturn, 0, 0, 0)]
def zm_g73 (pc : Nat) : Option zm_I := cond (Nat.blt pc 10) (zm_lk zm_c73_0 pc) (cond (Nat.blt pc 22) (zm_lk zm_c73_1 pc) (zm_lk zm_c73_2 pc))
/-- NeedMachineModel.fail(I)I -/
def zm_c74_0 : List (Nat × zm_I) := [(0, .aload_n 0, 0, 0, 0), (1, .iload_n 1, 0, 0, 0), (2, .putfield 84, 5, 12, 0), (5, .iconst 0, 0, 0, 0), (6, .ireturn, 0, 0, 0)]
def zm_g74 (pc : Nat) : Option zm_I := zm_lk zm_c74_0 pc
/-- NeedMachineModel.define()I -/
def zm_c75_0 : List (Nat × zm_I) := [(0, .iconst 4, 0, 0, 0), (1, .newarray .int, 0, 0, 0), (3, .dup, 0, 0, 0), (4, .iconst 0, 0, 0, 0), (5, .iconst 0, 0, 0, 0), (6, .iastore, 0, 0, 0)]
def zm_c75_1 : List (Nat × zm_I) := [(7, .dup, 0, 0, 0), (8, .iconst 1, 0, 0, 0), (9, .iconst 0, 0, 0, 0), (10, .iastore, 0, 0, 0), (11, .dup, 0, 0, 0), (12, .iconst 2, 0, 0, 0)]
def zm_c75_2 : List (Nat × zm_I) := [(13, .iconst 0, 0, 0, 0), (14, .iastore, 0, 0, 0), (15, .dup, 0, 0, 0), (16, .iconst 3, 0, 0, 0), (17, .iconst 0, 0, 0, 0), (18, .iastore, 0, 0, 0)]
def zm_c75_3 : List (Nat × zm_I) := [(19, .astore_n 1, 0, 0, 0), (20, .aload_n 0, 0, 0, 0), (21, .iconst 0, 0, 0, 0), (22, .putfield 102, 5, 10, 0), (25, .aload_n 0, 0, 0, 0), (26, .aload_n 1, 0, 0, 0)]
def zm_c75_4 : List (Nat × zm_I) := [(27, .invokevirtual 115, 0, 0, 0), (30, .istore_n 2, 0, 0, 0), (31, .aload_n 0, 0, 0, 0), (32, .getfield 102, 5, 10, 0), (35, .istore_n 3, 0, 0, 0), (36, .iload_n 2, 0, 0, 0)]
def zm_c75_5 : List (Nat × zm_I) := [(37, .ifCond .lt 15, 0, 0, 0), (40, .aload_n 0, 0, 0, 0), (41, .iload_n 2, 0, 0, 0), (42, .invokevirtual 119, 0, 0, 0), (45, .ifCond .eq 7, 0, 0, 0), (48, .iconst 1, 0, 0, 0)]
def zm_c75_6 : List (Nat × zm_I) := [(49, .goto 4, 0, 0, 0), (52, .iconst 0, 0, 0, 0), (53, .istore 4, 0, 0, 0), (55, .iload 4, 0, 0, 0), (57, .ifCond .ne 11, 0, 0, 0), (60, .aload_n 0, 0, 0, 0)]
def zm_c75_7 : List (Nat × zm_I) := [(61, .aload_n 0, 0, 0, 0), (62, .getfield 102, 5, 10, 0), (65, .putfield 35, 5, 9, 0), (68, .aload_n 0, 0, 0, 0), (69, .getfield 95, 5, 8, 0), (72, .istore 5, 0, 0, 0)]
def zm_c75_8 : List (Nat × zm_I) := [(74, .iload 4, 0, 0, 0), (76, .ifCond .eq 75, 0, 0, 0), (79, .aload_n 0, 0, 0, 0), (80, .getfield 7, 5, 0, 0), (83, .iconst 0, 0, 0, 0), (84, .iaload, 0, 0, 0)]
def zm_c75_9 : List (Nat × zm_I) := [(85, .bipush 65, 0, 0, 0), (87, .isub, 0, 0, 0), (88, .istore 6, 0, 0, 0), (90, .aload_n 0, 0, 0, 0), (91, .getfield 19, 5, 3, 0), (94, .iload 6, 0, 0, 0)]
def zm_c75_10 : List (Nat × zm_I) := [(96, .aload_n 0, 0, 0, 0), (97, .iload_n 3, 0, 0, 0), (98, .invokevirtual 123, 0, 0, 0), (101, .iastore, 0, 0, 0), (102, .aload_n 0, 0, 0, 0), (103, .getfield 25, 5, 5, 0)]
def zm_c75_11 : List (Nat × zm_I) := [(106, .iload 6, 0, 0, 0), (108, .iload_n 3, 0, 0, 0), (109, .iconst 2, 0, 0, 0), (110, .isub, 0, 0, 0), (111, .iastore, 0, 0, 0), (112, .iconst 0, 0, 0, 0)]
def zm_c75_12 : List (Nat × zm_I) := [(113, .istore 7, 0, 0, 0), (115, .iload 7, 0, 0, 0), (117, .iconst 4, 0, 0, 0), (118, .if_icmp .ge 25, 0, 0, 0), (121, .aload_n 0, 0, 0, 0), (122, .getfield 22, 5, 4, 0)]
def zm_c75_13 : List (Nat × zm_I) := [(125, .iload 6, 0, 0, 0), (127, .iconst 4, 0, 0, 0), (128, .imul, 0, 0, 0), (129, .iload 7, 0, 0, 0), (131, .iadd, 0, 0, 0), (132, .aload_n 1, 0, 0, 0)]
def zm_c75_14 : List (Nat × zm_I) := [(133, .iload 7, 0, 0, 0), (135, .iaload, 0, 0, 0), (136, .iastore, 0, 0, 0), (137, .iinc 7 1, 0, 0, 0), (140, .goto (-25), 0, 0, 0), (143, .aload_n 0, 0, 0, 0)]
def zm_c75_15 : List (Nat × zm_I) := [(144, .getfield 31, 5, 7, 0), (147, .iload 6, 0, 0, 0), (149, .iconst 1, 0, 0, 0), (150, .bastore, 0, 0, 0), (151, .aload_n 0, 0, 0, 0), (152, .iconst 0, 0, 0, 0)]
def zm_c75_16 : List (Nat × zm_I) := [(153, .putfield 95, 5, 8, 0), (156, .aload_n 0, 0, 0, 0), (157, .iload 4, 0, 0, 0), (159, .invokevirtual 91, 0, 0, 0), (162, .ifCond .ne 8, 0, 0, 0), (165, .iload 5, 0, 0, 0)]
def zm_c75_17 : List (Nat × zm_I) := [(167, .ifCond .ne 7, 0, 0, 0), (170, .iconst 0, 0, 0, 0), (171, .goto 6, 0, 0, 0), (174, .iload_n 3, 0, 0, 0), (175, .iconst 2, 0, 0, 0), (176, .isub, 0, 0, 0)]
def zm_c75_18 : List (Nat × zm_I) := [(177, .ireturn, 0, 0, 0)]
def zm_g75 (pc : Nat) : Option zm_I := cond (Nat.blt pc 85) (cond (Nat.blt pc 27) (cond (Nat.blt pc 13) (cond (Nat.blt pc 7) (zm_lk zm_c75_0 pc) (zm_lk zm_c75_1 pc)) (cond (Nat.blt pc 19) (zm_lk zm_c75_2 pc) (zm_lk zm_c75_3 pc))) (cond (Nat.blt pc 49) (cond (Nat.blt pc 37) (zm_lk zm_c75_4 pc) (zm_lk zm_c75_5 pc)) (cond (Nat.blt pc 61) (zm_lk zm_c75_6 pc) (cond (Nat.blt pc 74) (zm_lk zm_c75_7 pc) (zm_lk zm_c75_8 pc))))) (cond (Nat.blt pc 133) (cond (Nat.blt pc 106) (cond (Nat.blt pc 96) (zm_lk zm_c75_9 pc) (zm_lk zm_c75_10 pc)) (cond (Nat.blt pc 113) (zm_lk zm_c75_11 pc) (cond (Nat.blt pc 125) (zm_lk zm_c75_12 pc) (zm_lk zm_c75_13 pc)))) (cond (Nat.blt pc 153) (cond (Nat.blt pc 144) (zm_lk zm_c75_14 pc) (zm_lk zm_c75_15 pc)) (cond (Nat.blt pc 167) (zm_lk zm_c75_16 pc) (cond (Nat.blt pc 177) (zm_lk zm_c75_17 pc) (zm_lk zm_c75_18 pc)))))
/-- NeedMachineModel.heading([I)I -/
def zm_c76_0 : List (Nat × zm_I) := [(0, .iconst 0, 0, 0, 0), (1, .istore_n 2, 0, 0, 0), (2, .iconst 0, 0, 0, 0), (3, .istore_n 3, 0, 0, 0), (4, .aload_n 0, 0, 0, 0), (5, .invokevirtual 105, 0, 0, 0)]
def zm_c76_1 : List (Nat × zm_I) := [(8, .bipush 65, 0, 0, 0), (10, .bipush 70, 0, 0, 0), (12, .invokestatic 87, 0, 0, 0), (15, .ifCond .ne 5, 0, 0, 0), (18, .iconst (-1), 0, 0, 0), (19, .ireturn, 0, 0, 0)]
def zm_c76_2 : List (Nat × zm_I) := [(20, .aload_n 0, 0, 0, 0), (21, .dup, 0, 0, 0), (22, .getfield 102, 5, 10, 0), (25, .iconst 1, 0, 0, 0), (26, .iadd, 0, 0, 0), (27, .putfield 102, 5, 10, 0)]
def zm_c76_3 : List (Nat × zm_I) := [(30, .iload_n 3, 0, 0, 0), (31, .iconst 4, 0, 0, 0), (32, .if_icmp .ge 66, 0, 0, 0), (35, .aload_n 0, 0, 0, 0), (36, .invokevirtual 105, 0, 0, 0), (39, .bipush 97, 0, 0, 0)]
def zm_c76_4 : List (Nat × zm_I) := [(41, .bipush 102, 0, 0, 0), (43, .invokestatic 87, 0, 0, 0), (46, .ifCond .eq 52, 0, 0, 0), (49, .iload_n 2, 0, 0, 0), (50, .aload_n 0, 0, 0, 0), (51, .invokevirtual 105, 0, 0, 0)]
def zm_c76_5 : List (Nat × zm_I) := [(54, .bipush 97, 0, 0, 0), (56, .isub, 0, 0, 0), (57, .ishr, 0, 0, 0), (58, .iconst 1, 0, 0, 0), (59, .iand, 0, 0, 0), (60, .ifCond .ne 38, 0, 0, 0)]
def zm_c76_6 : List (Nat × zm_I) := [(63, .iload_n 2, 0, 0, 0), (64, .iconst 1, 0, 0, 0), (65, .aload_n 0, 0, 0, 0), (66, .invokevirtual 105, 0, 0, 0), (69, .bipush 97, 0, 0, 0), (71, .isub, 0, 0, 0)]
def zm_c76_7 : List (Nat × zm_I) := [(72, .ishl, 0, 0, 0), (73, .ior, 0, 0, 0), (74, .istore_n 2, 0, 0, 0), (75, .aload_n 1, 0, 0, 0), (76, .iload_n 3, 0, 0, 0), (77, .aload_n 0, 0, 0, 0)]
def zm_c76_8 : List (Nat × zm_I) := [(78, .invokevirtual 105, 0, 0, 0), (81, .iastore, 0, 0, 0), (82, .iinc 3 1, 0, 0, 0), (85, .aload_n 0, 0, 0, 0), (86, .dup, 0, 0, 0), (87, .getfield 102, 5, 10, 0)]
def zm_c76_9 : List (Nat × zm_I) := [(90, .iconst 1, 0, 0, 0), (91, .iadd, 0, 0, 0), (92, .putfield 102, 5, 10, 0), (95, .goto (-65), 0, 0, 0), (98, .aload_n 0, 0, 0, 0), (99, .invokevirtual 105, 0, 0, 0)]
def zm_c76_10 : List (Nat × zm_I) := [(102, .bipush 61, 0, 0, 0), (104, .if_icmp .eq 5, 0, 0, 0), (107, .iconst (-1), 0, 0, 0), (108, .ireturn, 0, 0, 0), (109, .aload_n 0, 0, 0, 0), (110, .dup, 0, 0, 0)]
def zm_c76_11 : List (Nat × zm_I) := [(111, .getfield 102, 5, 10, 0), (114, .iconst 1, 0, 0, 0), (115, .iadd, 0, 0, 0), (116, .putfield 102, 5, 10, 0), (119, .iload_n 2, 0, 0, 0), (120, .ireturn, 0, 0, 0)]
def zm_g76 (pc : Nat) : Option zm_I := cond (Nat.blt pc 63) (cond (Nat.blt pc 30) (cond (Nat.blt pc 8) (zm_lk zm_c76_0 pc) (cond (Nat.blt pc 20) (zm_lk zm_c76_1 pc) (zm_lk zm_c76_2 pc))) (cond (Nat.blt pc 41) (zm_lk zm_c76_3 pc) (cond (Nat.blt pc 54) (zm_lk zm_c76_4 pc) (zm_lk zm_c76_5 pc)))) (cond (Nat.blt pc 90) (cond (Nat.blt pc 72) (zm_lk zm_c76_6 pc) (cond (Nat.blt pc 78) (zm_lk zm_c76_7 pc) (zm_lk zm_c76_8 pc))) (cond (Nat.blt pc 102) (zm_lk zm_c76_9 pc) (cond (Nat.blt pc 111) (zm_lk zm_c76_10 pc) (zm_lk zm_c76_11 pc))))
/-- NeedMachineModel.look()I -/
def zm_c77_0 : List (Nat × zm_I) := [(0, .aload_n 0, 0, 0, 0), (1, .getfield 102, 5, 10, 0), (4, .aload_n 0, 0, 0, 0), (5, .getfield 95, 5, 8, 0), (8, .if_icmp .ge 15, 0, 0, 0), (11, .aload_n 0, 0, 0, 0)]
def zm_c77_1 : List (Nat × zm_I) := [(12, .getfield 7, 5, 0, 0), (15, .aload_n 0, 0, 0, 0), (16, .getfield 102, 5, 10, 0), (19, .iaload, 0, 0, 0), (20, .goto 4, 0, 0, 0), (23, .iconst 0, 0, 0, 0)]
def zm_c77_2 : List (Nat × zm_I) := [(24, .ireturn, 0, 0, 0)]
def zm_g77 (pc : Nat) : Option zm_I := cond (Nat.blt pc 12) (zm_lk zm_c77_0 pc) (cond (Nat.blt pc 24) (zm_lk zm_c77_1 pc) (zm_lk zm_c77_2 pc))
/-- NeedMachineModel.read(I)Z -/
def zm_c78_0 : List (Nat × zm_I) := [(0, .iconst 1, 0, 0, 0), (1, .istore_n 2, 0, 0, 0), (2, .aload_n 0, 0, 0, 0), (3, .getfield 28, 5, 6, 0), (6, .iconst 1, 0, 0, 0), (7, .iconst 1, 0, 0, 0)]
def zm_c78_1 : List (Nat × zm_I) := [(8, .iastore, 0, 0, 0), (9, .iload_n 2, 0, 0, 0), (10, .ifCond .le 112, 0, 0, 0), (13, .aload_n 0, 0, 0, 0), (14, .invokevirtual 105, 0, 0, 0), (17, .istore_n 3, 0, 0, 0)]
def zm_c78_2 : List (Nat × zm_I) := [(18, .iload_n 3, 0, 0, 0), (19, .invokestatic 109, 0, 0, 0), (22, .istore 4, 0, 0, 0), (24, .iload 4, 0, 0, 0), (26, .ifCond .lt 36, 0, 0, 0), (29, .iload 4, 0, 0, 0)]
def zm_c78_3 : List (Nat × zm_I) := [(31, .ifCond .le 9, 0, 0, 0), (34, .iload_n 2, 0, 0, 0), (35, .bipush 12, 0, 0, 0), (37, .if_icmp .eq 25, 0, 0, 0), (40, .iload_n 3, 0, 0, 0), (41, .bipush 97, 0, 0, 0)]
def zm_c78_4 : List (Nat × zm_I) := [(43, .bipush 102, 0, 0, 0), (45, .invokestatic 87, 0, 0, 0), (48, .ifCond .eq 16, 0, 0, 0), (51, .iload_n 1, 0, 0, 0), (52, .iload_n 3, 0, 0, 0), (53, .bipush 97, 0, 0, 0)]
def zm_c78_5 : List (Nat × zm_I) := [(55, .isub, 0, 0, 0), (56, .ishr, 0, 0, 0), (57, .iconst 1, 0, 0, 0), (58, .iand, 0, 0, 0), (59, .ifCond .ne 5, 0, 0, 0), (62, .iconst 0, 0, 0, 0)]
def zm_c78_6 : List (Nat × zm_I) := [(63, .ireturn, 0, 0, 0), (64, .aload_n 0, 0, 0, 0), (65, .dup, 0, 0, 0), (66, .getfield 102, 5, 10, 0), (69, .iconst 1, 0, 0, 0), (70, .iadd, 0, 0, 0)]
def zm_c78_7 : List (Nat × zm_I) := [(71, .putfield 102, 5, 10, 0), (74, .aload_n 0, 0, 0, 0), (75, .getfield 28, 5, 6, 0), (78, .iload_n 2, 0, 0, 0), (79, .dup2, 0, 0, 0), (80, .iaload, 0, 0, 0)]
def zm_c78_8 : List (Nat × zm_I) := [(81, .iconst 1, 0, 0, 0), (82, .isub, 0, 0, 0), (83, .iastore, 0, 0, 0), (84, .iload 4, 0, 0, 0), (86, .ifCond .le 14, 0, 0, 0), (89, .iinc 2 1, 0, 0, 0)]
def zm_c78_9 : List (Nat × zm_I) := [(92, .aload_n 0, 0, 0, 0), (93, .getfield 28, 5, 6, 0), (96, .iload_n 2, 0, 0, 0), (97, .iload 4, 0, 0, 0), (99, .iastore, 0, 0, 0), (100, .iload_n 2, 0, 0, 0)]
def zm_c78_10 : List (Nat × zm_I) := [(101, .ifCond .le 18, 0, 0, 0), (104, .aload_n 0, 0, 0, 0), (105, .getfield 28, 5, 6, 0), (108, .iload_n 2, 0, 0, 0), (109, .iaload, 0, 0, 0), (110, .ifCond .ne 9, 0, 0, 0)]
def zm_c78_11 : List (Nat × zm_I) := [(113, .iinc 2 (-1), 0, 0, 0), (116, .goto (-16), 0, 0, 0), (119, .goto (-110), 0, 0, 0), (122, .aload_n 0, 0, 0, 0), (123, .getfield 102, 5, 10, 0), (126, .aload_n 0, 0, 0, 0)]
def zm_c78_12 : List (Nat × zm_I) := [(127, .getfield 95, 5, 8, 0), (130, .if_icmp .ne 7, 0, 0, 0), (133, .iconst 1, 0, 0, 0), (134, .goto 4, 0, 0, 0), (137, .iconst 0, 0, 0, 0), (138, .ireturn, 0, 0, 0)]
def zm_g78 (pc : Nat) : Option zm_I := cond (Nat.blt pc 63) (cond (Nat.blt pc 31) (cond (Nat.blt pc 8) (zm_lk zm_c78_0 pc) (cond (Nat.blt pc 18) (zm_lk zm_c78_1 pc) (zm_lk zm_c78_2 pc))) (cond (Nat.blt pc 43) (zm_lk zm_c78_3 pc) (cond (Nat.blt pc 55) (zm_lk zm_c78_4 pc) (zm_lk zm_c78_5 pc)))) (cond (Nat.blt pc 92) (cond (Nat.blt pc 71) (zm_lk zm_c78_6 pc) (cond (Nat.blt pc 81) (zm_lk zm_c78_7 pc) (zm_lk zm_c78_8 pc))) (cond (Nat.blt pc 113) (cond (Nat.blt pc 101) (zm_lk zm_c78_9 pc) (zm_lk zm_c78_10 pc)) (cond (Nat.blt pc 127) (zm_lk zm_c78_11 pc) (zm_lk zm_c78_12 pc))))
/-- NeedMachineModel.parts(I)I -/
def zm_c79_0 : List (Nat × zm_I) := [(0, .iload_n 0, 0, 0, 0), (1, .bipush 48, 0, 0, 0), (3, .bipush 57, 0, 0, 0), (5, .invokestatic 87, 0, 0, 0), (8, .ifCond .ne 31, 0, 0, 0), (11, .iload_n 0, 0, 0, 0)]
def zm_c79_1 : List (Nat × zm_I) := [(12, .bipush 97, 0, 0, 0), (14, .bipush 102, 0, 0, 0), (16, .invokestatic 87, 0, 0, 0), (19, .ifCond .ne 20, 0, 0, 0), (22, .iload_n 0, 0, 0, 0), (23, .bipush 65, 0, 0, 0)]
def zm_c79_2 : List (Nat × zm_I) := [(25, .bipush 70, 0, 0, 0), (27, .invokestatic 87, 0, 0, 0), (30, .ifCond .ne 9, 0, 0, 0), (33, .iload_n 0, 0, 0, 0), (34, .bipush 110, 0, 0, 0), (36, .if_icmp .ne 5, 0, 0, 0)]
def zm_c79_3 : List (Nat × zm_I) := [(39, .iconst 0, 0, 0, 0), (40, .ireturn, 0, 0, 0), (41, .iload_n 0, 0, 0, 0), (42, .bipush 104, 0, 0, 0), (44, .if_icmp .eq 15, 0, 0, 0), (47, .iload_n 0, 0, 0, 0)]
def zm_c79_4 : List (Nat × zm_I) := [(48, .bipush 116, 0, 0, 0), (50, .if_icmp .eq 9, 0, 0, 0), (53, .iload_n 0, 0, 0, 0), (54, .bipush 122, 0, 0, 0), (56, .if_icmp .ne 5, 0, 0, 0), (59, .iconst 1, 0, 0, 0)]
def zm_c79_5 : List (Nat × zm_I) := [(60, .ireturn, 0, 0, 0), (61, .iload_n 0, 0, 0, 0), (62, .bipush 63, 0, 0, 0), (64, .if_icmp .ne 5, 0, 0, 0), (67, .iconst 3, 0, 0, 0), (68, .ireturn, 0, 0, 0)]
def zm_c79_6 : List (Nat × zm_I) := [(69, .iload_n 0, 0, 0, 0), (70, .bipush 46, 0, 0, 0), (72, .if_icmp .eq 51, 0, 0, 0), (75, .iload_n 0, 0, 0, 0), (76, .bipush 43, 0, 0, 0), (78, .if_icmp .eq 45, 0, 0, 0)]
def zm_c79_7 : List (Nat × zm_I) := [(81, .iload_n 0, 0, 0, 0), (82, .bipush 45, 0, 0, 0), (84, .if_icmp .eq 39, 0, 0, 0), (87, .iload_n 0, 0, 0, 0), (88, .bipush 42, 0, 0, 0), (90, .if_icmp .eq 33, 0, 0, 0)]
def zm_c79_8 : List (Nat × zm_I) := [(93, .iload_n 0, 0, 0, 0), (94, .bipush 47, 0, 0, 0), (96, .if_icmp .eq 27, 0, 0, 0), (99, .iload_n 0, 0, 0, 0), (100, .bipush 37, 0, 0, 0), (102, .if_icmp .eq 21, 0, 0, 0)]
def zm_c79_9 : List (Nat × zm_I) := [(105, .iload_n 0, 0, 0, 0), (106, .bipush 60, 0, 0, 0), (108, .if_icmp .eq 15, 0, 0, 0), (111, .iload_n 0, 0, 0, 0), (112, .bipush 61, 0, 0, 0), (114, .if_icmp .eq 9, 0, 0, 0)]
def zm_c79_10 : List (Nat × zm_I) := [(117, .iload_n 0, 0, 0, 0), (118, .bipush 58, 0, 0, 0), (120, .if_icmp .ne 7, 0, 0, 0), (123, .iconst 2, 0, 0, 0), (124, .goto 4, 0, 0, 0), (127, .iconst (-1), 0, 0, 0)]
def zm_c79_11 : List (Nat × zm_I) := [(128, .ireturn, 0, 0, 0)]
def zm_g79 (pc : Nat) : Option zm_I := cond (Nat.blt pc 69) (cond (Nat.blt pc 39) (cond (Nat.blt pc 12) (zm_lk zm_c79_0 pc) (cond (Nat.blt pc 25) (zm_lk zm_c79_1 pc) (zm_lk zm_c79_2 pc))) (cond (Nat.blt pc 48) (zm_lk zm_c79_3 pc) (cond (Nat.blt pc 60) (zm_lk zm_c79_4 pc) (zm_lk zm_c79_5 pc)))) (cond (Nat.blt pc 105) (cond (Nat.blt pc 81) (zm_lk zm_c79_6 pc) (cond (Nat.blt pc 93) (zm_lk zm_c79_7 pc) (zm_lk zm_c79_8 pc))) (cond (Nat.blt pc 117) (zm_lk zm_c79_9 pc) (cond (Nat.blt pc 128) (zm_lk zm_c79_10 pc) (zm_lk zm_c79_11 pc))))
/-- NeedMachineModel.store(I)I -/
def zm_c80_0 : List (Nat × zm_I) := [(0, .aload_n 0, 0, 0, 0), (1, .getfield 112, 5, 11, 0), (4, .istore_n 2, 0, 0, 0), (5, .iload_n 1, 0, 0, 0), (6, .istore_n 3, 0, 0, 0), (7, .iload_n 3, 0, 0, 0)]
def zm_c80_1 : List (Nat × zm_I) := [(8, .aload_n 0, 0, 0, 0), (9, .getfield 95, 5, 8, 0), (12, .if_icmp .ge 34, 0, 0, 0), (15, .aload_n 0, 0, 0, 0), (16, .getfield 13, 5, 1, 0), (19, .aload_n 0, 0, 0, 0)]
def zm_c80_2 : List (Nat × zm_I) := [(20, .getfield 112, 5, 11, 0), (23, .aload_n 0, 0, 0, 0), (24, .getfield 7, 5, 0, 0), (27, .iload_n 3, 0, 0, 0), (28, .iaload, 0, 0, 0), (29, .iastore, 0, 0, 0)]
def zm_c80_3 : List (Nat × zm_I) := [(30, .aload_n 0, 0, 0, 0), (31, .dup, 0, 0, 0), (32, .getfield 112, 5, 11, 0), (35, .iconst 1, 0, 0, 0), (36, .iadd, 0, 0, 0), (37, .putfield 112, 5, 11, 0)]
def zm_c80_4 : List (Nat × zm_I) := [(40, .iinc 3 1, 0, 0, 0), (43, .goto (-36), 0, 0, 0), (46, .iload_n 2, 0, 0, 0), (47, .ireturn, 0, 0, 0)]
def zm_g80 (pc : Nat) : Option zm_I := cond (Nat.blt pc 20) (cond (Nat.blt pc 8) (zm_lk zm_c80_0 pc) (zm_lk zm_c80_1 pc)) (cond (Nat.blt pc 30) (zm_lk zm_c80_2 pc) (cond (Nat.blt pc 40) (zm_lk zm_c80_3 pc) (zm_lk zm_c80_4 pc)))
/-- NeedMachineModel.ask()I -/
def zm_c81_0 : List (Nat × zm_I) := [(0, .aload_n 0, 0, 0, 0), (1, .iconst 0, 0, 0, 0), (2, .putfield 102, 5, 10, 0), (5, .aload_n 0, 0, 0, 0), (6, .iconst 0, 0, 0, 0), (7, .invokevirtual 119, 0, 0, 0)]
def zm_c81_1 : List (Nat × zm_I) := [(10, .istore_n 1, 0, 0, 0), (11, .iload_n 1, 0, 0, 0), (12, .ifCond .ne 11, 0, 0, 0), (15, .aload_n 0, 0, 0, 0), (16, .aload_n 0, 0, 0, 0), (17, .getfield 102, 5, 10, 0)]
def zm_c81_2 : List (Nat × zm_I) := [(20, .putfield 35, 5, 9, 0), (23, .aload_n 0, 0, 0, 0), (24, .iload_n 1, 0, 0, 0), (25, .invokevirtual 91, 0, 0, 0), (28, .ifCond .eq 10, 0, 0, 0), (31, .aload_n 0, 0, 0, 0)]
def zm_c81_3 : List (Nat × zm_I) := [(32, .iconst 0, 0, 0, 0), (33, .putfield 95, 5, 8, 0), (36, .iconst 0, 0, 0, 0), (37, .ireturn, 0, 0, 0), (38, .aload_n 0, 0, 0, 0), (39, .invokevirtual 229, 0, 0, 0)]
def zm_c81_4 : List (Nat × zm_I) := [(42, .aload_n 0, 0, 0, 0), (43, .iconst 0, 0, 0, 0), (44, .invokevirtual 123, 0, 0, 0), (47, .istore_n 2, 0, 0, 0), (48, .aload_n 0, 0, 0, 0), (49, .iconst 0, 0, 0, 0)]
def zm_c81_5 : List (Nat × zm_I) := [(50, .putfield 95, 5, 8, 0), (53, .aload_n 0, 0, 0, 0), (54, .iconst 0, 0, 0, 0), (55, .putfield 175, 5, 33, 0), (58, .aload_n 0, 0, 0, 0), (59, .iconst 0, 0, 0, 0)]
def zm_c81_6 : List (Nat × zm_I) := [(60, .putfield 141, 5, 32, 0), (63, .aload_n 0, 0, 0, 0), (64, .iload_n 2, 0, 0, 0), (65, .iconst 0, 0, 0, 0), (66, .invokevirtual 232, 0, 0, 0), (69, .aload_n 0, 0, 0, 0)]
def zm_c81_7 : List (Nat × zm_I) := [(70, .invokevirtual 235, 0, 0, 0), (73, .ireturn, 0, 0, 0)]
def zm_g81 (pc : Nat) : Option zm_I := cond (Nat.blt pc 42) (cond (Nat.blt pc 20) (cond (Nat.blt pc 10) (zm_lk zm_c81_0 pc) (zm_lk zm_c81_1 pc)) (cond (Nat.blt pc 32) (zm_lk zm_c81_2 pc) (zm_lk zm_c81_3 pc))) (cond (Nat.blt pc 60) (cond (Nat.blt pc 50) (zm_lk zm_c81_4 pc) (zm_lk zm_c81_5 pc)) (cond (Nat.blt pc 70) (zm_lk zm_c81_6 pc) (zm_lk zm_c81_7 pc)))
/-- NeedMachineModel.sweep()V -/
def zm_c82_0 : List (Nat × zm_I) := [(0, .iconst 0, 0, 0, 0), (1, .istore_n 1, 0, 0, 0), (2, .iconst 0, 0, 0, 0), (3, .istore_n 2, 0, 0, 0), (4, .iload_n 2, 0, 0, 0), (5, .bipush 6, 0, 0, 0)]
def zm_c82_1 : List (Nat × zm_I) := [(7, .if_icmp .ge 79, 0, 0, 0), (10, .aload_n 0, 0, 0, 0), (11, .getfield 31, 5, 7, 0), (14, .iload_n 2, 0, 0, 0), (15, .baload, 0, 0, 0), (16, .ifCond .ne 6, 0, 0, 0)]
def zm_c82_2 : List (Nat × zm_I) := [(19, .goto 61, 0, 0, 0), (22, .aload_n 0, 0, 0, 0), (23, .aload_n 0, 0, 0, 0), (24, .getfield 19, 5, 3, 0), (27, .iload_n 2, 0, 0, 0), (28, .iaload, 0, 0, 0)]
def zm_c82_3 : List (Nat × zm_I) := [(29, .invokevirtual 126, 0, 0, 0), (32, .istore_n 3, 0, 0, 0), (33, .iload_n 1, 0, 0, 0), (34, .istore 4, 0, 0, 0), (36, .aload_n 0, 0, 0, 0), (37, .getfield 19, 5, 3, 0)]
def zm_c82_4 : List (Nat × zm_I) := [(40, .iload_n 2, 0, 0, 0), (41, .iaload, 0, 0, 0), (42, .istore 5, 0, 0, 0), (44, .iload 5, 0, 0, 0), (46, .iload_n 3, 0, 0, 0), (47, .if_icmp .ge 25, 0, 0, 0)]
def zm_c82_5 : List (Nat × zm_I) := [(50, .aload_n 0, 0, 0, 0), (51, .getfield 16, 5, 2, 0), (54, .iload_n 1, 0, 0, 0), (55, .aload_n 0, 0, 0, 0), (56, .getfield 13, 5, 1, 0), (59, .iload 5, 0, 0, 0)]
def zm_c82_6 : List (Nat × zm_I) := [(61, .iaload, 0, 0, 0), (62, .iastore, 0, 0, 0), (63, .iinc 1 1, 0, 0, 0), (66, .iinc 5 1, 0, 0, 0), (69, .goto (-25), 0, 0, 0), (72, .aload_n 0, 0, 0, 0)]
def zm_c82_7 : List (Nat × zm_I) := [(73, .getfield 19, 5, 3, 0), (76, .iload_n 2, 0, 0, 0), (77, .iload 4, 0, 0, 0), (79, .iastore, 0, 0, 0), (80, .iinc 2 1, 0, 0, 0), (83, .goto (-79), 0, 0, 0)]
def zm_c82_8 : List (Nat × zm_I) := [(86, .iconst 0, 0, 0, 0), (87, .istore_n 2, 0, 0, 0), (88, .iload_n 2, 0, 0, 0), (89, .iload_n 1, 0, 0, 0), (90, .if_icmp .ge 21, 0, 0, 0), (93, .aload_n 0, 0, 0, 0)]
def zm_c82_9 : List (Nat × zm_I) := [(94, .getfield 13, 5, 1, 0), (97, .iload_n 2, 0, 0, 0), (98, .aload_n 0, 0, 0, 0), (99, .getfield 16, 5, 2, 0), (102, .iload_n 2, 0, 0, 0), (103, .iaload, 0, 0, 0)]
def zm_c82_10 : List (Nat × zm_I) := [(104, .iastore, 0, 0, 0), (105, .iinc 2 1, 0, 0, 0), (108, .goto (-20), 0, 0, 0), (111, .aload_n 0, 0, 0, 0), (112, .iload_n 1, 0, 0, 0), (113, .putfield 112, 5, 11, 0)]
def zm_c82_11 : List (Nat × zm_I) := [(116, .aload_n 0, 0, 0, 0), (117, .aload_n 0, 0, 0, 0), (118, .aload_n 0, 0, 0, 0), (119, .iconst 0, 0, 0, 0), (120, .dup_x1, 0, 0, 0), (121, .putfield 129, 5, 25, 0)]
def zm_c82_12 : List (Nat × zm_I) := [(124, .dup_x1, 0, 0, 0), (125, .putfield 132, 5, 24, 0), (128, .putfield 135, 5, 23, 0), (131, .return_, 0, 0, 0)]
def zm_g82 (pc : Nat) : Option zm_I := cond (Nat.blt pc 61) (cond (Nat.blt pc 29) (cond (Nat.blt pc 7) (zm_lk zm_c82_0 pc) (cond (Nat.blt pc 19) (zm_lk zm_c82_1 pc) (zm_lk zm_c82_2 pc))) (cond (Nat.blt pc 40) (zm_lk zm_c82_3 pc) (cond (Nat.blt pc 50) (zm_lk zm_c82_4 pc) (zm_lk zm_c82_5 pc)))) (cond (Nat.blt pc 94) (cond (Nat.blt pc 73) (zm_lk zm_c82_6 pc) (cond (Nat.blt pc 86) (zm_lk zm_c82_7 pc) (zm_lk zm_c82_8 pc))) (cond (Nat.blt pc 116) (cond (Nat.blt pc 104) (zm_lk zm_c82_9 pc) (zm_lk zm_c82_10 pc)) (cond (Nat.blt pc 124) (zm_lk zm_c82_11 pc) (zm_lk zm_c82_12 pc))))
/-- NeedMachineModel.skip(I)I -/
def zm_c83_0 : List (Nat × zm_I) := [(0, .iload_n 1, 0, 0, 0), (1, .istore_n 2, 0, 0, 0), (2, .iconst 1, 0, 0, 0), (3, .istore_n 3, 0, 0, 0), (4, .iload_n 3, 0, 0, 0), (5, .ifCond .le 23, 0, 0, 0)]
def zm_c83_1 : List (Nat × zm_I) := [(8, .iload_n 3, 0, 0, 0), (9, .aload_n 0, 0, 0, 0), (10, .getfield 13, 5, 1, 0), (13, .iload_n 2, 0, 0, 0), (14, .iaload, 0, 0, 0), (15, .invokestatic 109, 0, 0, 0)]
def zm_c83_2 : List (Nat × zm_I) := [(18, .iconst 1, 0, 0, 0), (19, .isub, 0, 0, 0), (20, .iadd, 0, 0, 0), (21, .istore_n 3, 0, 0, 0), (22, .iinc 2 1, 0, 0, 0), (25, .goto (-21), 0, 0, 0)]
def zm_c83_3 : List (Nat × zm_I) := [(28, .iload_n 2, 0, 0, 0), (29, .ireturn, 0, 0, 0)]
def zm_g83 (pc : Nat) : Option zm_I := cond (Nat.blt pc 18) (cond (Nat.blt pc 8) (zm_lk zm_c83_0 pc) (zm_lk zm_c83_1 pc)) (cond (Nat.blt pc 28) (zm_lk zm_c83_2 pc) (zm_lk zm_c83_3 pc))
/-- NeedMachineModel.workOut(II)V -/
def zm_c84_0 : List (Nat × zm_I) := [(0, .aload_n 0, 0, 0, 0), (1, .iconst 0, 0, 0, 0), (2, .putfield 138, 5, 31, 0), (5, .aload_n 0, 0, 0, 0), (6, .iload_n 1, 0, 0, 0), (7, .iload_n 2, 0, 0, 0)]
def zm_c84_1 : List (Nat × zm_I) := [(8, .invokevirtual 171, 0, 0, 0), (11, .aload_n 0, 0, 0, 0), (12, .getfield 138, 5, 31, 0), (15, .ifCond .le 17, 0, 0, 0), (18, .aload_n 0, 0, 0, 0), (19, .getfield 84, 5, 12, 0)]
def zm_c84_2 : List (Nat × zm_I) := [(22, .ifCond .ne 10, 0, 0, 0), (25, .aload_n 0, 0, 0, 0), (26, .invokevirtual 213, 0, 0, 0), (29, .goto (-18), 0, 0, 0), (32, .return_, 0, 0, 0)]
def zm_g84 (pc : Nat) : Option zm_I := cond (Nat.blt pc 8) (zm_lk zm_c84_0 pc) (cond (Nat.blt pc 22) (zm_lk zm_c84_1 pc) (zm_lk zm_c84_2 pc))
/-- NeedMachineModel.push(II)V -/
def zm_c85_0 : List (Nat × zm_I) := [(0, .aload_n 0, 0, 0, 0), (1, .getfield 138, 5, 31, 0), (4, .bipush 60, 0, 0, 0), (6, .if_icmp .ne 9, 0, 0, 0), (9, .aload_n 0, 0, 0, 0), (10, .iconst 4, 0, 0, 0)]
def zm_c85_1 : List (Nat × zm_I) := [(11, .putfield 84, 5, 12, 0), (14, .return_, 0, 0, 0), (15, .aload_n 0, 0, 0, 0), (16, .dup, 0, 0, 0), (17, .getfield 138, 5, 31, 0), (20, .iconst 1, 0, 0, 0)]
def zm_c85_2 : List (Nat × zm_I) := [(21, .iadd, 0, 0, 0), (22, .putfield 138, 5, 31, 0), (25, .aload_n 0, 0, 0, 0), (26, .getfield 138, 5, 31, 0), (29, .aload_n 0, 0, 0, 0), (30, .getfield 141, 5, 32, 0)]
def zm_c85_3 : List (Nat × zm_I) := [(33, .if_icmp .le 11, 0, 0, 0), (36, .aload_n 0, 0, 0, 0), (37, .aload_n 0, 0, 0, 0), (38, .getfield 138, 5, 31, 0), (41, .putfield 141, 5, 32, 0), (44, .aload_n 0, 0, 0, 0)]
def zm_c85_4 : List (Nat × zm_I) := [(45, .getfield 69, 5, 26, 0), (48, .aload_n 0, 0, 0, 0), (49, .getfield 138, 5, 31, 0), (52, .iload_n 1, 0, 0, 0), (53, .iastore, 0, 0, 0), (54, .aload_n 0, 0, 0, 0)]
def zm_c85_5 : List (Nat × zm_I) := [(55, .getfield 72, 5, 27, 0), (58, .aload_n 0, 0, 0, 0), (59, .getfield 138, 5, 31, 0), (62, .iload_n 2, 0, 0, 0), (63, .iastore, 0, 0, 0), (64, .aload_n 0, 0, 0, 0)]
def zm_c85_6 : List (Nat × zm_I) := [(65, .getfield 75, 5, 28, 0), (68, .aload_n 0, 0, 0, 0), (69, .getfield 138, 5, 31, 0), (72, .iconst 0, 0, 0, 0), (73, .iastore, 0, 0, 0), (74, .aload_n 0, 0, 0, 0)]
def zm_c85_7 : List (Nat × zm_I) := [(75, .getfield 81, 5, 30, 0), (78, .aload_n 0, 0, 0, 0), (79, .getfield 138, 5, 31, 0), (82, .iconst (-1), 0, 0, 0), (83, .iastore, 0, 0, 0), (84, .return_, 0, 0, 0)]
def zm_g85 (pc : Nat) : Option zm_I := cond (Nat.blt pc 45) (cond (Nat.blt pc 21) (cond (Nat.blt pc 11) (zm_lk zm_c85_0 pc) (zm_lk zm_c85_1 pc)) (cond (Nat.blt pc 33) (zm_lk zm_c85_2 pc) (zm_lk zm_c85_3 pc))) (cond (Nat.blt pc 65) (cond (Nat.blt pc 55) (zm_lk zm_c85_4 pc) (zm_lk zm_c85_5 pc)) (cond (Nat.blt pc 75) (zm_lk zm_c85_6 pc) (zm_lk zm_c85_7 pc)))
/-- NeedMachineModel.step()V -/
def zm_c86_0 : List (Nat × zm_I) := [(0, .aload_n 0, 0, 0, 0), (1, .getfield 138, 5, 31, 0), (4, .istore_n 1, 0, 0, 0), (5, .aload_n 0, 0, 0, 0), (6, .getfield 69, 5, 26, 0), (9, .iload_n 1, 0, 0, 0)]
def zm_c86_1 : List (Nat × zm_I) := [(10, .iaload, 0, 0, 0), (11, .istore_n 2, 0, 0, 0), (12, .aload_n 0, 0, 0, 0), (13, .getfield 13, 5, 1, 0), (16, .iload_n 2, 0, 0, 0), (17, .iaload, 0, 0, 0)]
def zm_c86_2 : List (Nat × zm_I) := [(18, .istore_n 3, 0, 0, 0), (19, .aload_n 0, 0, 0, 0), (20, .getfield 75, 5, 28, 0), (23, .iload_n 1, 0, 0, 0), (24, .iaload, 0, 0, 0), (25, .iconst 3, 0, 0, 0)]
def zm_c86_3 : List (Nat × zm_I) := [(26, .if_icmp .ne 10, 0, 0, 0), (29, .aload_n 0, 0, 0, 0), (30, .invokevirtual 204, 0, 0, 0), (33, .goto 203, 0, 0, 0), (36, .aload_n 0, 0, 0, 0), (37, .getfield 75, 5, 28, 0)]
def zm_c86_4 : List (Nat × zm_I) := [(40, .iload_n 1, 0, 0, 0), (41, .iaload, 0, 0, 0), (42, .iconst 4, 0, 0, 0), (43, .if_icmp .ne 16, 0, 0, 0), (46, .aload_n 0, 0, 0, 0), (47, .dup, 0, 0, 0)]
def zm_c86_5 : List (Nat × zm_I) := [(48, .getfield 138, 5, 31, 0), (51, .iconst 1, 0, 0, 0), (52, .isub, 0, 0, 0), (53, .putfield 138, 5, 31, 0), (56, .goto 180, 0, 0, 0), (59, .aload_n 0, 0, 0, 0)]
def zm_c86_6 : List (Nat × zm_I) := [(60, .getfield 75, 5, 28, 0), (63, .iload_n 1, 0, 0, 0), (64, .iaload, 0, 0, 0), (65, .ifCond .le 12, 0, 0, 0), (68, .aload_n 0, 0, 0, 0), (69, .iload_n 1, 0, 0, 0)]
def zm_c86_7 : List (Nat × zm_I) := [(70, .iload_n 3, 0, 0, 0), (71, .invokevirtual 207, 0, 0, 0), (74, .goto 162, 0, 0, 0), (77, .iload_n 3, 0, 0, 0), (78, .bipush 48, 0, 0, 0), (80, .bipush 57, 0, 0, 0)]
def zm_c86_8 : List (Nat × zm_I) := [(82, .invokestatic 87, 0, 0, 0), (85, .ifCond .eq 16, 0, 0, 0), (88, .aload_n 0, 0, 0, 0), (89, .iconst 0, 0, 0, 0), (90, .iload_n 3, 0, 0, 0), (91, .bipush 48, 0, 0, 0)]
def zm_c86_9 : List (Nat × zm_I) := [(93, .isub, 0, 0, 0), (94, .iconst 0, 0, 0, 0), (95, .invokevirtual 157, 0, 0, 0), (98, .goto 138, 0, 0, 0), (101, .iload_n 3, 0, 0, 0), (102, .bipush 110, 0, 0, 0)]
def zm_c86_10 : List (Nat × zm_I) := [(104, .if_icmp .ne 13, 0, 0, 0), (107, .aload_n 0, 0, 0, 0), (108, .iconst 1, 0, 0, 0), (109, .iconst 0, 0, 0, 0), (110, .iconst 0, 0, 0, 0), (111, .invokevirtual 157, 0, 0, 0)]
def zm_c86_11 : List (Nat × zm_I) := [(114, .goto 122, 0, 0, 0), (117, .iload_n 3, 0, 0, 0), (118, .bipush 97, 0, 0, 0), (120, .bipush 102, 0, 0, 0), (122, .invokestatic 87, 0, 0, 0), (125, .ifCond .eq 21, 0, 0, 0)]
def zm_c86_12 : List (Nat × zm_I) := [(128, .aload_n 0, 0, 0, 0), (129, .aload_n 0, 0, 0, 0), (130, .iload_n 3, 0, 0, 0), (131, .aload_n 0, 0, 0, 0), (132, .getfield 72, 5, 27, 0), (135, .iload_n 1, 0, 0, 0)]
def zm_c86_13 : List (Nat × zm_I) := [(136, .iaload, 0, 0, 0), (137, .invokevirtual 153, 0, 0, 0), (140, .invokevirtual 193, 0, 0, 0), (143, .goto 93, 0, 0, 0), (146, .iload_n 3, 0, 0, 0), (147, .bipush 65, 0, 0, 0)]
def zm_c86_14 : List (Nat × zm_I) := [(149, .bipush 70, 0, 0, 0), (151, .invokestatic 87, 0, 0, 0), (154, .ifCond .eq 14, 0, 0, 0), (157, .aload_n 0, 0, 0, 0), (158, .iload_n 3, 0, 0, 0), (159, .bipush 65, 0, 0, 0)]
def zm_c86_15 : List (Nat × zm_I) := [(161, .isub, 0, 0, 0), (162, .invokevirtual 210, 0, 0, 0), (165, .goto 71, 0, 0, 0), (168, .iload_n 3, 0, 0, 0), (169, .bipush 58, 0, 0, 0), (171, .if_icmp .ne 45, 0, 0, 0)]
def zm_c86_16 : List (Nat × zm_I) := [(174, .aload_n 0, 0, 0, 0), (175, .iload_n 2, 0, 0, 0), (176, .iconst 1, 0, 0, 0), (177, .iadd, 0, 0, 0), (178, .aload_n 0, 0, 0, 0), (179, .getfield 72, 5, 27, 0)]
def zm_c86_17 : List (Nat × zm_I) := [(182, .iload_n 1, 0, 0, 0), (183, .iaload, 0, 0, 0), (184, .invokevirtual 181, 0, 0, 0), (187, .istore 4, 0, 0, 0), (189, .aload_n 0, 0, 0, 0), (190, .iconst 2, 0, 0, 0)]
def zm_c86_18 : List (Nat × zm_I) := [(191, .iload 4, 0, 0, 0), (193, .aload_n 0, 0, 0, 0), (194, .aload_n 0, 0, 0, 0), (195, .iload_n 2, 0, 0, 0), (196, .iconst 1, 0, 0, 0), (197, .iadd, 0, 0, 0)]
def zm_c86_19 : List (Nat × zm_I) := [(198, .invokevirtual 126, 0, 0, 0), (201, .aload_n 0, 0, 0, 0), (202, .getfield 72, 5, 27, 0), (205, .iload_n 1, 0, 0, 0), (206, .iaload, 0, 0, 0), (207, .invokevirtual 181, 0, 0, 0)]
def zm_c86_20 : List (Nat × zm_I) := [(210, .invokevirtual 157, 0, 0, 0), (213, .goto 23, 0, 0, 0), (216, .aload_n 0, 0, 0, 0), (217, .getfield 75, 5, 28, 0), (220, .iload_n 1, 0, 0, 0), (221, .iconst 1, 0, 0, 0)]
def zm_c86_21 : List (Nat × zm_I) := [(222, .iastore, 0, 0, 0), (223, .aload_n 0, 0, 0, 0), (224, .iload_n 2, 0, 0, 0), (225, .iconst 1, 0, 0, 0), (226, .iadd, 0, 0, 0), (227, .aload_n 0, 0, 0, 0)]
def zm_c86_22 : List (Nat × zm_I) := [(228, .getfield 72, 5, 27, 0), (231, .iload_n 1, 0, 0, 0), (232, .iaload, 0, 0, 0), (233, .invokevirtual 171, 0, 0, 0), (236, .return_, 0, 0, 0)]
def zm_g86 (pc : Nat) : Option zm_I := cond (Nat.blt pc 114) (cond (Nat.blt pc 48) (cond (Nat.blt pc 18) (cond (Nat.blt pc 10) (zm_lk zm_c86_0 pc) (zm_lk zm_c86_1 pc)) (cond (Nat.blt pc 26) (zm_lk zm_c86_2 pc) (cond (Nat.blt pc 40) (zm_lk zm_c86_3 pc) (zm_lk zm_c86_4 pc)))) (cond (Nat.blt pc 82) (cond (Nat.blt pc 60) (zm_lk zm_c86_5 pc) (cond (Nat.blt pc 70) (zm_lk zm_c86_6 pc) (zm_lk zm_c86_7 pc))) (cond (Nat.blt pc 93) (zm_lk zm_c86_8 pc) (cond (Nat.blt pc 104) (zm_lk zm_c86_9 pc) (zm_lk zm_c86_10 pc))))) (cond (Nat.blt pc 182) (cond (Nat.blt pc 149) (cond (Nat.blt pc 128) (zm_lk zm_c86_11 pc) (cond (Nat.blt pc 136) (zm_lk zm_c86_12 pc) (zm_lk zm_c86_13 pc))) (cond (Nat.blt pc 161) (zm_lk zm_c86_14 pc) (cond (Nat.blt pc 174) (zm_lk zm_c86_15 pc) (zm_lk zm_c86_16 pc)))) (cond (Nat.blt pc 210) (cond (Nat.blt pc 191) (zm_lk zm_c86_17 pc) (cond (Nat.blt pc 198) (zm_lk zm_c86_18 pc) (zm_lk zm_c86_19 pc))) (cond (Nat.blt pc 222) (zm_lk zm_c86_20 pc) (cond (Nat.blt pc 228) (zm_lk zm_c86_21 pc) (zm_lk zm_c86_22 pc)))))
/-- NeedMachineModel.keepValue()V -/
def zm_c87_0 : List (Nat × zm_I) := [(0, .aload_n 0, 0, 0, 0), (1, .getfield 81, 5, 30, 0), (4, .aload_n 0, 0, 0, 0), (5, .getfield 138, 5, 31, 0), (8, .iaload, 0, 0, 0), (9, .istore_n 1, 0, 0, 0)]
def zm_c87_1 : List (Nat × zm_I) := [(10, .aload_n 0, 0, 0, 0), (11, .getfield 45, 5, 15, 0), (14, .iload_n 1, 0, 0, 0), (15, .iconst 2, 0, 0, 0), (16, .iastore, 0, 0, 0), (17, .aload_n 0, 0, 0, 0)]
def zm_c87_2 : List (Nat × zm_I) := [(18, .getfield 48, 5, 16, 0), (21, .iload_n 1, 0, 0, 0), (22, .aload_n 0, 0, 0, 0), (23, .getfield 144, 5, 37, 0), (26, .iastore, 0, 0, 0), (27, .aload_n 0, 0, 0, 0)]
def zm_c87_3 : List (Nat × zm_I) := [(28, .getfield 51, 5, 17, 0), (31, .iload_n 1, 0, 0, 0), (32, .aload_n 0, 0, 0, 0), (33, .getfield 147, 5, 38, 0), (36, .iastore, 0, 0, 0), (37, .aload_n 0, 0, 0, 0)]
def zm_c87_4 : List (Nat × zm_I) := [(38, .getfield 54, 5, 18, 0), (41, .iload_n 1, 0, 0, 0), (42, .aload_n 0, 0, 0, 0), (43, .getfield 150, 5, 39, 0), (46, .iastore, 0, 0, 0), (47, .aload_n 0, 0, 0, 0)]
def zm_c87_5 : List (Nat × zm_I) := [(48, .iload_n 1, 0, 0, 0), (49, .invokevirtual 164, 0, 0, 0), (52, .return_, 0, 0, 0)]
def zm_g87 (pc : Nat) : Option zm_I := cond (Nat.blt pc 28) (cond (Nat.blt pc 10) (zm_lk zm_c87_0 pc) (cond (Nat.blt pc 18) (zm_lk zm_c87_1 pc) (zm_lk zm_c87_2 pc))) (cond (Nat.blt pc 38) (zm_lk zm_c87_3 pc) (cond (Nat.blt pc 48) (zm_lk zm_c87_4 pc) (zm_lk zm_c87_5 pc)))
/-- NeedMachineModel.giveClosure(I)V -/
def zm_c88_0 : List (Nat × zm_I) := [(0, .aload_n 0, 0, 0, 0), (1, .aload_n 0, 0, 0, 0), (2, .getfield 48, 5, 16, 0), (5, .iload_n 1, 0, 0, 0), (6, .iaload, 0, 0, 0), (7, .aload_n 0, 0, 0, 0)]
def zm_c88_1 : List (Nat × zm_I) := [(8, .getfield 51, 5, 17, 0), (11, .iload_n 1, 0, 0, 0), (12, .iaload, 0, 0, 0), (13, .aload_n 0, 0, 0, 0), (14, .getfield 54, 5, 18, 0), (17, .iload_n 1, 0, 0, 0)]
def zm_c88_2 : List (Nat × zm_I) := [(18, .iaload, 0, 0, 0), (19, .invokevirtual 157, 0, 0, 0), (22, .return_, 0, 0, 0)]
def zm_g88 (pc : Nat) : Option zm_I := cond (Nat.blt pc 8) (zm_lk zm_c88_0 pc) (cond (Nat.blt pc 18) (zm_lk zm_c88_1 pc) (zm_lk zm_c88_2 pc))
/-- NeedMachineModel.give(III)V -/
def zm_c89_0 : List (Nat × zm_I) := [(0, .aload_n 0, 0, 0, 0), (1, .iload_n 1, 0, 0, 0), (2, .putfield 144, 5, 37, 0), (5, .aload_n 0, 0, 0, 0), (6, .iload_n 2, 0, 0, 0), (7, .putfield 147, 5, 38, 0)]
def zm_c89_1 : List (Nat × zm_I) := [(10, .aload_n 0, 0, 0, 0), (11, .iload_n 3, 0, 0, 0), (12, .putfield 150, 5, 39, 0), (15, .aload_n 0, 0, 0, 0), (16, .dup, 0, 0, 0), (17, .getfield 138, 5, 31, 0)]
def zm_c89_2 : List (Nat × zm_I) := [(20, .iconst 1, 0, 0, 0), (21, .isub, 0, 0, 0), (22, .putfield 138, 5, 31, 0), (25, .return_, 0, 0, 0)]
def zm_g89 (pc : Nat) : Option zm_I := cond (Nat.blt pc 10) (zm_lk zm_c89_0 pc) (cond (Nat.blt pc 20) (zm_lk zm_c89_1 pc) (zm_lk zm_c89_2 pc))
/-- NeedMachineModel.goOn(II)V -/
def zm_c90_0 : List (Nat × zm_I) := [(0, .aload_n 0, 0, 0, 0), (1, .getfield 69, 5, 26, 0), (4, .iload_n 1, 0, 0, 0), (5, .iaload, 0, 0, 0), (6, .istore_n 3, 0, 0, 0), (7, .iload_n 2, 0, 0, 0)]
def zm_c90_1 : List (Nat × zm_I) := [(8, .bipush 46, 0, 0, 0), (10, .if_icmp .ne 11, 0, 0, 0), (13, .aload_n 0, 0, 0, 0), (14, .iload_n 1, 0, 0, 0), (15, .invokevirtual 190, 0, 0, 0), (18, .goto 259, 0, 0, 0)]
def zm_c90_2 : List (Nat × zm_I) := [(21, .iload_n 2, 0, 0, 0), (22, .bipush 122, 0, 0, 0), (24, .if_icmp .ne 49, 0, 0, 0), (27, .aload_n 0, 0, 0, 0), (28, .getfield 144, 5, 37, 0), (31, .iconst 1, 0, 0, 0)]
def zm_c90_3 : List (Nat × zm_I) := [(32, .if_icmp .eq 19, 0, 0, 0), (35, .aload_n 0, 0, 0, 0), (36, .getfield 144, 5, 37, 0), (39, .iconst 2, 0, 0, 0), (40, .if_icmp .eq 11, 0, 0, 0), (43, .aload_n 0, 0, 0, 0)]
def zm_c90_4 : List (Nat × zm_I) := [(44, .iconst 5, 0, 0, 0), (45, .putfield 84, 5, 12, 0), (48, .goto 229, 0, 0, 0), (51, .aload_n 0, 0, 0, 0), (52, .iconst 0, 0, 0, 0), (53, .aload_n 0, 0, 0, 0)]
def zm_c90_5 : List (Nat × zm_I) := [(54, .getfield 144, 5, 37, 0), (57, .iconst 1, 0, 0, 0), (58, .if_icmp .ne 7, 0, 0, 0), (61, .iconst 1, 0, 0, 0), (62, .goto 4, 0, 0, 0), (65, .iconst 0, 0, 0, 0)]
def zm_c90_6 : List (Nat × zm_I) := [(66, .iconst 0, 0, 0, 0), (67, .invokevirtual 157, 0, 0, 0), (70, .goto 207, 0, 0, 0), (73, .iload_n 2, 0, 0, 0), (74, .bipush 104, 0, 0, 0), (76, .if_icmp .eq 9, 0, 0, 0)]
def zm_c90_7 : List (Nat × zm_I) := [(79, .iload_n 2, 0, 0, 0), (80, .bipush 116, 0, 0, 0), (82, .if_icmp .ne 55, 0, 0, 0), (85, .aload_n 0, 0, 0, 0), (86, .getfield 144, 5, 37, 0), (89, .iconst 2, 0, 0, 0)]
def zm_c90_8 : List (Nat × zm_I) := [(90, .if_icmp .eq 23, 0, 0, 0), (93, .aload_n 0, 0, 0, 0), (94, .aload_n 0, 0, 0, 0), (95, .getfield 144, 5, 37, 0), (98, .iconst 1, 0, 0, 0), (99, .if_icmp .ne 7, 0, 0, 0)]
def zm_c90_9 : List (Nat × zm_I) := [(102, .iconst 2, 0, 0, 0), (103, .goto 4, 0, 0, 0), (106, .iconst 5, 0, 0, 0), (107, .putfield 84, 5, 12, 0), (110, .goto 167, 0, 0, 0), (113, .aload_n 0, 0, 0, 0)]
def zm_c90_10 : List (Nat × zm_I) := [(114, .iload_n 2, 0, 0, 0), (115, .bipush 104, 0, 0, 0), (117, .if_icmp .ne 10, 0, 0, 0), (120, .aload_n 0, 0, 0, 0), (121, .getfield 147, 5, 38, 0), (124, .goto 7, 0, 0, 0)]
def zm_c90_11 : List (Nat × zm_I) := [(127, .aload_n 0, 0, 0, 0), (128, .getfield 150, 5, 39, 0), (131, .invokevirtual 193, 0, 0, 0), (134, .goto 143, 0, 0, 0), (137, .aload_n 0, 0, 0, 0), (138, .invokevirtual 196, 0, 0, 0)]
def zm_c90_12 : List (Nat × zm_I) := [(141, .ifCond .ne 4, 0, 0, 0), (144, .return_, 0, 0, 0), (145, .iload_n 2, 0, 0, 0), (146, .bipush 63, 0, 0, 0), (148, .if_icmp .ne 50, 0, 0, 0), (151, .aload_n 0, 0, 0, 0)]
def zm_c90_13 : List (Nat × zm_I) := [(152, .iload_n 3, 0, 0, 0), (153, .iconst 1, 0, 0, 0), (154, .iadd, 0, 0, 0), (155, .invokevirtual 126, 0, 0, 0), (158, .istore 4, 0, 0, 0), (160, .aload_n 0, 0, 0, 0)]
def zm_c90_14 : List (Nat × zm_I) := [(161, .getfield 75, 5, 28, 0), (164, .iload_n 1, 0, 0, 0), (165, .iconst 4, 0, 0, 0), (166, .iastore, 0, 0, 0), (167, .aload_n 0, 0, 0, 0), (168, .aload_n 0, 0, 0, 0)]
def zm_c90_15 : List (Nat × zm_I) := [(169, .getfield 147, 5, 38, 0), (172, .ifCond .eq 8, 0, 0, 0), (175, .iload 4, 0, 0, 0), (177, .goto 9, 0, 0, 0), (180, .aload_n 0, 0, 0, 0), (181, .iload 4, 0, 0, 0)]
def zm_c90_16 : List (Nat × zm_I) := [(183, .invokevirtual 126, 0, 0, 0), (186, .aload_n 0, 0, 0, 0), (187, .getfield 72, 5, 27, 0), (190, .iload_n 1, 0, 0, 0), (191, .iaload, 0, 0, 0), (192, .invokevirtual 171, 0, 0, 0)]
def zm_c90_17 : List (Nat × zm_I) := [(195, .goto 82, 0, 0, 0), (198, .aload_n 0, 0, 0, 0), (199, .getfield 75, 5, 28, 0), (202, .iload_n 1, 0, 0, 0), (203, .iaload, 0, 0, 0), (204, .iconst 1, 0, 0, 0)]
def zm_c90_18 : List (Nat × zm_I) := [(205, .if_icmp .ne 40, 0, 0, 0), (208, .aload_n 0, 0, 0, 0), (209, .getfield 78, 5, 29, 0), (212, .iload_n 1, 0, 0, 0), (213, .aload_n 0, 0, 0, 0), (214, .getfield 147, 5, 38, 0)]
def zm_c90_19 : List (Nat × zm_I) := [(217, .iastore, 0, 0, 0), (218, .aload_n 0, 0, 0, 0), (219, .getfield 75, 5, 28, 0), (222, .iload_n 1, 0, 0, 0), (223, .iconst 2, 0, 0, 0), (224, .iastore, 0, 0, 0)]
def zm_c90_20 : List (Nat × zm_I) := [(225, .aload_n 0, 0, 0, 0), (226, .aload_n 0, 0, 0, 0), (227, .iload_n 3, 0, 0, 0), (228, .iconst 1, 0, 0, 0), (229, .iadd, 0, 0, 0), (230, .invokevirtual 126, 0, 0, 0)]
def zm_c90_21 : List (Nat × zm_I) := [(233, .aload_n 0, 0, 0, 0), (234, .getfield 72, 5, 27, 0), (237, .iload_n 1, 0, 0, 0), (238, .iaload, 0, 0, 0), (239, .invokevirtual 171, 0, 0, 0), (242, .goto 35, 0, 0, 0)]
def zm_c90_22 : List (Nat × zm_I) := [(245, .aload_n 0, 0, 0, 0), (246, .iload_n 2, 0, 0, 0), (247, .aload_n 0, 0, 0, 0), (248, .getfield 78, 5, 29, 0), (251, .iload_n 1, 0, 0, 0), (252, .iaload, 0, 0, 0)]
def zm_c90_23 : List (Nat × zm_I) := [(253, .aload_n 0, 0, 0, 0), (254, .getfield 147, 5, 38, 0), (257, .invokevirtual 200, 0, 0, 0), (260, .istore 4, 0, 0, 0), (262, .aload_n 0, 0, 0, 0), (263, .getfield 84, 5, 12, 0)]
def zm_c90_24 : List (Nat × zm_I) := [(266, .ifCond .ne 11, 0, 0, 0), (269, .aload_n 0, 0, 0, 0), (270, .iconst 0, 0, 0, 0), (271, .iload 4, 0, 0, 0), (273, .iconst 0, 0, 0, 0), (274, .invokevirtual 157, 0, 0, 0)]
def zm_c90_25 : List (Nat × zm_I) := [(277, .return_, 0, 0, 0)]
def zm_g90 (pc : Nat) : Option zm_I := cond (Nat.blt pc 152) (cond (Nat.blt pc 66) (cond (Nat.blt pc 32) (cond (Nat.blt pc 8) (zm_lk zm_c90_0 pc) (cond (Nat.blt pc 21) (zm_lk zm_c90_1 pc) (zm_lk zm_c90_2 pc))) (cond (Nat.blt pc 44) (zm_lk zm_c90_3 pc) (cond (Nat.blt pc 54) (zm_lk zm_c90_4 pc) (zm_lk zm_c90_5 pc)))) (cond (Nat.blt pc 102) (cond (Nat.blt pc 79) (zm_lk zm_c90_6 pc) (cond (Nat.blt pc 90) (zm_lk zm_c90_7 pc) (zm_lk zm_c90_8 pc))) (cond (Nat.blt pc 127) (cond (Nat.blt pc 114) (zm_lk zm_c90_9 pc) (zm_lk zm_c90_10 pc)) (cond (Nat.blt pc 141) (zm_lk zm_c90_11 pc) (zm_lk zm_c90_12 pc))))) (cond (Nat.blt pc 217) (cond (Nat.blt pc 183) (cond (Nat.blt pc 161) (zm_lk zm_c90_13 pc) (cond (Nat.blt pc 169) (zm_lk zm_c90_14 pc) (zm_lk zm_c90_15 pc))) (cond (Nat.blt pc 195) (zm_lk zm_c90_16 pc) (cond (Nat.blt pc 205) (zm_lk zm_c90_17 pc) (zm_lk zm_c90_18 pc)))) (cond (Nat.blt pc 245) (cond (Nat.blt pc 225) (zm_lk zm_c90_19 pc) (cond (Nat.blt pc 233) (zm_lk zm_c90_20 pc) (zm_lk zm_c90_21 pc))) (cond (Nat.blt pc 266) (cond (Nat.blt pc 253) (zm_lk zm_c90_22 pc) (zm_lk zm_c90_23 pc)) (cond (Nat.blt pc 277) (zm_lk zm_c90_24 pc) (zm_lk zm_c90_25 pc)))))
/-- NeedMachineModel.apply(I)V -/
def zm_c91_0 : List (Nat × zm_I) := [(0, .aload_n 0, 0, 0, 0), (1, .getfield 144, 5, 37, 0), (4, .iconst 3, 0, 0, 0), (5, .if_icmp .eq 9, 0, 0, 0), (8, .aload_n 0, 0, 0, 0), (9, .iconst 5, 0, 0, 0)]
def zm_c91_1 : List (Nat × zm_I) := [(10, .putfield 84, 5, 12, 0), (13, .return_, 0, 0, 0), (14, .aload_n 0, 0, 0, 0), (15, .getfield 147, 5, 38, 0), (18, .istore_n 2, 0, 0, 0), (19, .aload_n 0, 0, 0, 0)]
def zm_c91_2 : List (Nat × zm_I) := [(20, .getfield 69, 5, 26, 0), (23, .iload_n 1, 0, 0, 0), (24, .iaload, 0, 0, 0), (25, .istore_n 3, 0, 0, 0), (26, .aload_n 0, 0, 0, 0), (27, .getfield 63, 5, 21, 0)]
def zm_c91_3 : List (Nat × zm_I) := [(30, .aload_n 0, 0, 0, 0), (31, .getfield 129, 5, 25, 0), (34, .aload_n 0, 0, 0, 0), (35, .aload_n 0, 0, 0, 0), (36, .iload_n 3, 0, 0, 0), (37, .iconst 1, 0, 0, 0)]
def zm_c91_4 : List (Nat × zm_I) := [(38, .iadd, 0, 0, 0), (39, .invokevirtual 126, 0, 0, 0), (42, .aload_n 0, 0, 0, 0), (43, .getfield 72, 5, 27, 0), (46, .iload_n 1, 0, 0, 0), (47, .iaload, 0, 0, 0)]
def zm_c91_5 : List (Nat × zm_I) := [(48, .invokevirtual 181, 0, 0, 0), (51, .iastore, 0, 0, 0), (52, .aload_n 0, 0, 0, 0), (53, .getfield 66, 5, 22, 0), (56, .aload_n 0, 0, 0, 0), (57, .getfield 129, 5, 25, 0)]
def zm_c91_6 : List (Nat × zm_I) := [(60, .aload_n 0, 0, 0, 0), (61, .getfield 150, 5, 39, 0), (64, .iastore, 0, 0, 0), (65, .aload_n 0, 0, 0, 0), (66, .dup, 0, 0, 0), (67, .getfield 129, 5, 25, 0)]
def zm_c91_7 : List (Nat × zm_I) := [(70, .iconst 1, 0, 0, 0), (71, .iadd, 0, 0, 0), (72, .putfield 129, 5, 25, 0), (75, .aload_n 0, 0, 0, 0), (76, .getfield 129, 5, 25, 0), (79, .iconst 1, 0, 0, 0)]
def zm_c91_8 : List (Nat × zm_I) := [(80, .isub, 0, 0, 0), (81, .istore 4, 0, 0, 0), (83, .aload_n 0, 0, 0, 0), (84, .iload 4, 0, 0, 0), (86, .invokevirtual 184, 0, 0, 0), (89, .istore 5, 0, 0, 0)]
def zm_c91_9 : List (Nat × zm_I) := [(91, .aload_n 0, 0, 0, 0), (92, .getfield 31, 5, 7, 0), (95, .iload_n 2, 0, 0, 0), (96, .baload, 0, 0, 0), (97, .ifCond .ne 11, 0, 0, 0), (100, .aload_n 0, 0, 0, 0)]
def zm_c91_10 : List (Nat × zm_I) := [(101, .iconst 2, 0, 0, 0), (102, .putfield 84, 5, 12, 0), (105, .goto 34, 0, 0, 0), (108, .iload 5, 0, 0, 0), (110, .aload_n 0, 0, 0, 0), (111, .getfield 25, 5, 5, 0)]
def zm_c91_11 : List (Nat × zm_I) := [(114, .iload_n 2, 0, 0, 0), (115, .iaload, 0, 0, 0), (116, .if_icmp .ge 14, 0, 0, 0), (119, .aload_n 0, 0, 0, 0), (120, .iconst 3, 0, 0, 0), (121, .iload_n 2, 0, 0, 0)]
def zm_c91_12 : List (Nat × zm_I) := [(122, .iload 4, 0, 0, 0), (124, .invokevirtual 157, 0, 0, 0), (127, .goto 12, 0, 0, 0), (130, .aload_n 0, 0, 0, 0), (131, .iload_n 2, 0, 0, 0), (132, .iload 4, 0, 0, 0)]
def zm_c91_13 : List (Nat × zm_I) := [(134, .iload 5, 0, 0, 0), (136, .invokevirtual 187, 0, 0, 0), (139, .return_, 0, 0, 0)]
def zm_g91 (pc : Nat) : Option zm_I := cond (Nat.blt pc 70) (cond (Nat.blt pc 30) (cond (Nat.blt pc 10) (zm_lk zm_c91_0 pc) (cond (Nat.blt pc 20) (zm_lk zm_c91_1 pc) (zm_lk zm_c91_2 pc))) (cond (Nat.blt pc 48) (cond (Nat.blt pc 38) (zm_lk zm_c91_3 pc) (zm_lk zm_c91_4 pc)) (cond (Nat.blt pc 60) (zm_lk zm_c91_5 pc) (zm_lk zm_c91_6 pc)))) (cond (Nat.blt pc 101) (cond (Nat.blt pc 80) (zm_lk zm_c91_7 pc) (cond (Nat.blt pc 91) (zm_lk zm_c91_8 pc) (zm_lk zm_c91_9 pc))) (cond (Nat.blt pc 122) (cond (Nat.blt pc 114) (zm_lk zm_c91_10 pc) (zm_lk zm_c91_11 pc)) (cond (Nat.blt pc 134) (zm_lk zm_c91_12 pc) (zm_lk zm_c91_13 pc))))
/-- NeedMachineModel.closureOf(II)I -/
def zm_c92_0 : List (Nat × zm_I) := [(0, .aload_n 0, 0, 0, 0), (1, .getfield 13, 5, 1, 0), (4, .iload_n 1, 0, 0, 0), (5, .iaload, 0, 0, 0), (6, .bipush 97, 0, 0, 0), (8, .bipush 102, 0, 0, 0)]
def zm_c92_1 : List (Nat × zm_I) := [(10, .invokestatic 87, 0, 0, 0), (13, .ifCond .eq 15, 0, 0, 0), (16, .aload_n 0, 0, 0, 0), (17, .aload_n 0, 0, 0, 0), (18, .getfield 13, 5, 1, 0), (21, .iload_n 1, 0, 0, 0)]
def zm_c92_2 : List (Nat × zm_I) := [(22, .iaload, 0, 0, 0), (23, .iload_n 2, 0, 0, 0), (24, .invokevirtual 153, 0, 0, 0), (27, .ireturn, 0, 0, 0), (28, .aload_n 0, 0, 0, 0), (29, .getfield 39, 5, 13, 0)]
def zm_c92_3 : List (Nat × zm_I) := [(32, .aload_n 0, 0, 0, 0), (33, .getfield 135, 5, 23, 0), (36, .iload_n 1, 0, 0, 0), (37, .iastore, 0, 0, 0), (38, .aload_n 0, 0, 0, 0), (39, .getfield 42, 5, 14, 0)]
def zm_c92_4 : List (Nat × zm_I) := [(42, .aload_n 0, 0, 0, 0), (43, .getfield 135, 5, 23, 0), (46, .iload_n 2, 0, 0, 0), (47, .iastore, 0, 0, 0), (48, .aload_n 0, 0, 0, 0), (49, .getfield 45, 5, 15, 0)]
def zm_c92_5 : List (Nat × zm_I) := [(52, .aload_n 0, 0, 0, 0), (53, .getfield 135, 5, 23, 0), (56, .iconst 0, 0, 0, 0), (57, .iastore, 0, 0, 0), (58, .aload_n 0, 0, 0, 0), (59, .dup, 0, 0, 0)]
def zm_c92_6 : List (Nat × zm_I) := [(60, .getfield 135, 5, 23, 0), (63, .iconst 1, 0, 0, 0), (64, .iadd, 0, 0, 0), (65, .putfield 135, 5, 23, 0), (68, .aload_n 0, 0, 0, 0), (69, .getfield 135, 5, 23, 0)]
def zm_c92_7 : List (Nat × zm_I) := [(72, .iconst 1, 0, 0, 0), (73, .isub, 0, 0, 0), (74, .ireturn, 0, 0, 0)]
def zm_g92 (pc : Nat) : Option zm_I := cond (Nat.blt pc 42) (cond (Nat.blt pc 22) (cond (Nat.blt pc 10) (zm_lk zm_c92_0 pc) (zm_lk zm_c92_1 pc)) (cond (Nat.blt pc 32) (zm_lk zm_c92_2 pc) (zm_lk zm_c92_3 pc))) (cond (Nat.blt pc 60) (cond (Nat.blt pc 52) (zm_lk zm_c92_4 pc) (zm_lk zm_c92_5 pc)) (cond (Nat.blt pc 72) (zm_lk zm_c92_6 pc) (zm_lk zm_c92_7 pc)))
/-- NeedMachineModel.parameterOf(II)I -/
def zm_c93_0 : List (Nat × zm_I) := [(0, .iload_n 2, 0, 0, 0), (1, .iconst 4, 0, 0, 0), (2, .imul, 0, 0, 0), (3, .istore_n 3, 0, 0, 0), (4, .aload_n 0, 0, 0, 0), (5, .getfield 57, 5, 19, 0)]
def zm_c93_1 : List (Nat × zm_I) := [(8, .iload_n 3, 0, 0, 0), (9, .iaload, 0, 0, 0), (10, .iload_n 1, 0, 0, 0), (11, .if_icmp .eq 9, 0, 0, 0), (14, .iinc 3 1, 0, 0, 0), (17, .goto (-13), 0, 0, 0)]
def zm_c93_2 : List (Nat × zm_I) := [(20, .aload_n 0, 0, 0, 0), (21, .getfield 60, 5, 20, 0), (24, .iload_n 3, 0, 0, 0), (25, .iaload, 0, 0, 0), (26, .ireturn, 0, 0, 0)]
def zm_g93 (pc : Nat) : Option zm_I := cond (Nat.blt pc 8) (zm_lk zm_c93_0 pc) (cond (Nat.blt pc 20) (zm_lk zm_c93_1 pc) (zm_lk zm_c93_2 pc))
/-- NeedMachineModel.countOf(I)I -/
def zm_c94_0 : List (Nat × zm_I) := [(0, .iconst 0, 0, 0, 0), (1, .istore_n 2, 0, 0, 0), (2, .iload_n 1, 0, 0, 0), (3, .istore_n 3, 0, 0, 0), (4, .iload_n 3, 0, 0, 0), (5, .ifCond .lt 16, 0, 0, 0)]
def zm_c94_1 : List (Nat × zm_I) := [(8, .iinc 2 1, 0, 0, 0), (11, .aload_n 0, 0, 0, 0), (12, .getfield 66, 5, 22, 0), (15, .iload_n 3, 0, 0, 0), (16, .iaload, 0, 0, 0), (17, .istore_n 3, 0, 0, 0)]
def zm_c94_2 : List (Nat × zm_I) := [(18, .goto (-14), 0, 0, 0), (21, .iload_n 2, 0, 0, 0), (22, .ireturn, 0, 0, 0)]
def zm_g94 (pc : Nat) : Option zm_I := cond (Nat.blt pc 8) (zm_lk zm_c94_0 pc) (cond (Nat.blt pc 18) (zm_lk zm_c94_1 pc) (zm_lk zm_c94_2 pc))
/-- NeedMachineModel.call(III)V -/
def zm_c95_0 : List (Nat × zm_I) := [(0, .aload_n 0, 0, 0, 0), (1, .getfield 175, 5, 33, 0), (4, .sipush 400, 0, 0, 0), (7, .if_icmp .ne 9, 0, 0, 0), (10, .aload_n 0, 0, 0, 0), (11, .iconst 4, 0, 0, 0)]
def zm_c95_1 : List (Nat × zm_I) := [(12, .putfield 84, 5, 12, 0), (15, .return_, 0, 0, 0), (16, .aload_n 0, 0, 0, 0), (17, .dup, 0, 0, 0), (18, .getfield 175, 5, 33, 0), (21, .iconst 1, 0, 0, 0)]
def zm_c95_2 : List (Nat × zm_I) := [(22, .iadd, 0, 0, 0), (23, .putfield 175, 5, 33, 0), (26, .aload_n 0, 0, 0, 0), (27, .dup, 0, 0, 0), (28, .getfield 178, 5, 34, 0), (31, .iconst 1, 0, 0, 0)]
def zm_c95_3 : List (Nat × zm_I) := [(32, .iadd, 0, 0, 0), (33, .putfield 178, 5, 34, 0), (36, .iload_n 2, 0, 0, 0), (37, .istore 4, 0, 0, 0), (39, .aload_n 0, 0, 0, 0), (40, .getfield 132, 5, 24, 0)]
def zm_c95_4 : List (Nat × zm_I) := [(43, .istore 5, 0, 0, 0), (45, .aload_n 0, 0, 0, 0), (46, .dup, 0, 0, 0), (47, .getfield 132, 5, 24, 0), (50, .iconst 1, 0, 0, 0), (51, .iadd, 0, 0, 0)]
def zm_c95_5 : List (Nat × zm_I) := [(52, .putfield 132, 5, 24, 0), (55, .iconst 0, 0, 0, 0), (56, .istore 6, 0, 0, 0), (58, .iload 6, 0, 0, 0), (60, .iconst 4, 0, 0, 0), (61, .if_icmp .ge 22, 0, 0, 0)]
def zm_c95_6 : List (Nat × zm_I) := [(64, .aload_n 0, 0, 0, 0), (65, .getfield 57, 5, 19, 0), (68, .iload 5, 0, 0, 0), (70, .iconst 4, 0, 0, 0), (71, .imul, 0, 0, 0), (72, .iload 6, 0, 0, 0)]
def zm_c95_7 : List (Nat × zm_I) := [(74, .iadd, 0, 0, 0), (75, .iconst 0, 0, 0, 0), (76, .iastore, 0, 0, 0), (77, .iinc 6 1, 0, 0, 0), (80, .goto (-22), 0, 0, 0), (83, .iload_n 3, 0, 0, 0)]
def zm_c95_8 : List (Nat × zm_I) := [(84, .iconst 1, 0, 0, 0), (85, .isub, 0, 0, 0), (86, .istore 6, 0, 0, 0), (88, .iload 6, 0, 0, 0), (90, .ifCond .lt 71, 0, 0, 0), (93, .iload 6, 0, 0, 0)]
def zm_c95_9 : List (Nat × zm_I) := [(95, .aload_n 0, 0, 0, 0), (96, .getfield 25, 5, 5, 0), (99, .iload_n 1, 0, 0, 0), (100, .iaload, 0, 0, 0), (101, .if_icmp .ge 45, 0, 0, 0), (104, .aload_n 0, 0, 0, 0)]
def zm_c95_10 : List (Nat × zm_I) := [(105, .getfield 57, 5, 19, 0), (108, .iload 5, 0, 0, 0), (110, .iconst 4, 0, 0, 0), (111, .imul, 0, 0, 0), (112, .iload 6, 0, 0, 0), (114, .iadd, 0, 0, 0)]
def zm_c95_11 : List (Nat × zm_I) := [(115, .aload_n 0, 0, 0, 0), (116, .getfield 22, 5, 4, 0), (119, .iload_n 1, 0, 0, 0), (120, .iconst 4, 0, 0, 0), (121, .imul, 0, 0, 0), (122, .iload 6, 0, 0, 0)]
def zm_c95_12 : List (Nat × zm_I) := [(124, .iadd, 0, 0, 0), (125, .iaload, 0, 0, 0), (126, .iastore, 0, 0, 0), (127, .aload_n 0, 0, 0, 0), (128, .getfield 60, 5, 20, 0), (131, .iload 5, 0, 0, 0)]
def zm_c95_13 : List (Nat × zm_I) := [(133, .iconst 4, 0, 0, 0), (134, .imul, 0, 0, 0), (135, .iload 6, 0, 0, 0), (137, .iadd, 0, 0, 0), (138, .aload_n 0, 0, 0, 0), (139, .getfield 63, 5, 21, 0)]
def zm_c95_14 : List (Nat × zm_I) := [(142, .iload 4, 0, 0, 0), (144, .iaload, 0, 0, 0), (145, .iastore, 0, 0, 0), (146, .aload_n 0, 0, 0, 0), (147, .getfield 66, 5, 22, 0), (150, .iload 4, 0, 0, 0)]
def zm_c95_15 : List (Nat × zm_I) := [(152, .iaload, 0, 0, 0), (153, .istore 4, 0, 0, 0), (155, .iinc 6 (-1), 0, 0, 0), (158, .goto (-70), 0, 0, 0), (161, .aload_n 0, 0, 0, 0), (162, .getfield 75, 5, 28, 0)]
def zm_c95_16 : List (Nat × zm_I) := [(165, .aload_n 0, 0, 0, 0), (166, .getfield 138, 5, 31, 0), (169, .iconst 4, 0, 0, 0), (170, .iastore, 0, 0, 0), (171, .aload_n 0, 0, 0, 0), (172, .aload_n 0, 0, 0, 0)]
def zm_c95_17 : List (Nat × zm_I) := [(173, .getfield 19, 5, 3, 0), (176, .iload_n 1, 0, 0, 0), (177, .iaload, 0, 0, 0), (178, .iload 5, 0, 0, 0), (180, .invokevirtual 171, 0, 0, 0), (183, .return_, 0, 0, 0)]
def zm_g95 (pc : Nat) : Option zm_I := cond (Nat.blt pc 95) (cond (Nat.blt pc 43) (cond (Nat.blt pc 22) (cond (Nat.blt pc 12) (zm_lk zm_c95_0 pc) (zm_lk zm_c95_1 pc)) (cond (Nat.blt pc 32) (zm_lk zm_c95_2 pc) (zm_lk zm_c95_3 pc))) (cond (Nat.blt pc 64) (cond (Nat.blt pc 52) (zm_lk zm_c95_4 pc) (zm_lk zm_c95_5 pc)) (cond (Nat.blt pc 74) (zm_lk zm_c95_6 pc) (cond (Nat.blt pc 84) (zm_lk zm_c95_7 pc) (zm_lk zm_c95_8 pc))))) (cond (Nat.blt pc 133) (cond (Nat.blt pc 115) (cond (Nat.blt pc 105) (zm_lk zm_c95_9 pc) (zm_lk zm_c95_10 pc)) (cond (Nat.blt pc 124) (zm_lk zm_c95_11 pc) (zm_lk zm_c95_12 pc))) (cond (Nat.blt pc 152) (cond (Nat.blt pc 142) (zm_lk zm_c95_13 pc) (zm_lk zm_c95_14 pc)) (cond (Nat.blt pc 165) (zm_lk zm_c95_15 pc) (cond (Nat.blt pc 173) (zm_lk zm_c95_16 pc) (zm_lk zm_c95_17 pc)))))
/-- NeedMachineModel.force(I)V -/
def zm_c96_0 : List (Nat × zm_I) := [(0, .aload_n 0, 0, 0, 0), (1, .getfield 45, 5, 15, 0), (4, .iload_n 1, 0, 0, 0), (5, .iaload, 0, 0, 0), (6, .iconst 2, 0, 0, 0), (7, .if_icmp .ne 19, 0, 0, 0)]
def zm_c96_1 : List (Nat × zm_I) := [(10, .aload_n 0, 0, 0, 0), (11, .dup, 0, 0, 0), (12, .getfield 161, 5, 36, 0), (15, .iconst 1, 0, 0, 0), (16, .iadd, 0, 0, 0), (17, .putfield 161, 5, 36, 0)]
def zm_c96_2 : List (Nat × zm_I) := [(20, .aload_n 0, 0, 0, 0), (21, .iload_n 1, 0, 0, 0), (22, .invokevirtual 164, 0, 0, 0), (25, .return_, 0, 0, 0), (26, .aload_n 0, 0, 0, 0), (27, .getfield 45, 5, 15, 0)]
def zm_c96_3 : List (Nat × zm_I) := [(30, .iload_n 1, 0, 0, 0), (31, .iaload, 0, 0, 0), (32, .iconst 1, 0, 0, 0), (33, .if_icmp .ne 9, 0, 0, 0), (36, .aload_n 0, 0, 0, 0), (37, .iconst 4, 0, 0, 0)]
def zm_c96_4 : List (Nat × zm_I) := [(38, .putfield 84, 5, 12, 0), (41, .return_, 0, 0, 0), (42, .aload_n 0, 0, 0, 0), (43, .dup, 0, 0, 0), (44, .getfield 168, 5, 35, 0), (47, .iconst 1, 0, 0, 0)]
def zm_c96_5 : List (Nat × zm_I) := [(48, .iadd, 0, 0, 0), (49, .putfield 168, 5, 35, 0), (52, .aload_n 0, 0, 0, 0), (53, .getfield 45, 5, 15, 0), (56, .iload_n 1, 0, 0, 0), (57, .iconst 1, 0, 0, 0)]
def zm_c96_6 : List (Nat × zm_I) := [(58, .iastore, 0, 0, 0), (59, .aload_n 0, 0, 0, 0), (60, .getfield 81, 5, 30, 0), (63, .aload_n 0, 0, 0, 0), (64, .getfield 138, 5, 31, 0), (67, .iload_n 1, 0, 0, 0)]
def zm_c96_7 : List (Nat × zm_I) := [(68, .iastore, 0, 0, 0), (69, .aload_n 0, 0, 0, 0), (70, .getfield 75, 5, 28, 0), (73, .aload_n 0, 0, 0, 0), (74, .getfield 138, 5, 31, 0), (77, .iconst 3, 0, 0, 0)]
def zm_c96_8 : List (Nat × zm_I) := [(78, .iastore, 0, 0, 0), (79, .aload_n 0, 0, 0, 0), (80, .aload_n 0, 0, 0, 0), (81, .getfield 39, 5, 13, 0), (84, .iload_n 1, 0, 0, 0), (85, .iaload, 0, 0, 0)]
def zm_c96_9 : List (Nat × zm_I) := [(86, .aload_n 0, 0, 0, 0), (87, .getfield 42, 5, 14, 0), (90, .iload_n 1, 0, 0, 0), (91, .iaload, 0, 0, 0), (92, .invokevirtual 171, 0, 0, 0), (95, .return_, 0, 0, 0)]
def zm_g96 (pc : Nat) : Option zm_I := cond (Nat.blt pc 48) (cond (Nat.blt pc 20) (cond (Nat.blt pc 10) (zm_lk zm_c96_0 pc) (zm_lk zm_c96_1 pc)) (cond (Nat.blt pc 30) (zm_lk zm_c96_2 pc) (cond (Nat.blt pc 38) (zm_lk zm_c96_3 pc) (zm_lk zm_c96_4 pc)))) (cond (Nat.blt pc 68) (cond (Nat.blt pc 58) (zm_lk zm_c96_5 pc) (zm_lk zm_c96_6 pc)) (cond (Nat.blt pc 78) (zm_lk zm_c96_7 pc) (cond (Nat.blt pc 86) (zm_lk zm_c96_8 pc) (zm_lk zm_c96_9 pc))))
/-- NeedMachineModel.isNumber()Z -/
def zm_c97_0 : List (Nat × zm_I) := [(0, .aload_n 0, 0, 0, 0), (1, .getfield 144, 5, 37, 0), (4, .ifCond .eq 8, 0, 0, 0), (7, .aload_n 0, 0, 0, 0), (8, .iconst 5, 0, 0, 0), (9, .putfield 84, 5, 12, 0)]
def zm_c97_1 : List (Nat × zm_I) := [(12, .aload_n 0, 0, 0, 0), (13, .getfield 84, 5, 12, 0), (16, .ifCond .ne 7, 0, 0, 0), (19, .iconst 1, 0, 0, 0), (20, .goto 4, 0, 0, 0), (23, .iconst 0, 0, 0, 0)]
def zm_c97_2 : List (Nat × zm_I) := [(24, .ireturn, 0, 0, 0)]
def zm_g97 (pc : Nat) : Option zm_I := cond (Nat.blt pc 12) (zm_lk zm_c97_0 pc) (cond (Nat.blt pc 24) (zm_lk zm_c97_1 pc) (zm_lk zm_c97_2 pc))
/-- NeedMachineModel.binary(III)I -/
def zm_c98_0 : List (Nat × zm_I) := [(0, .iload_n 1, 0, 0, 0), (1, .bipush 47, 0, 0, 0), (3, .if_icmp .eq 9, 0, 0, 0), (6, .iload_n 1, 0, 0, 0), (7, .bipush 37, 0, 0, 0), (9, .if_icmp .ne 13, 0, 0, 0)]
def zm_c98_1 : List (Nat × zm_I) := [(12, .iload_n 3, 0, 0, 0), (13, .ifCond .ne 9, 0, 0, 0), (16, .aload_n 0, 0, 0, 0), (17, .iconst 3, 0, 0, 0), (18, .invokevirtual 98, 0, 0, 0), (21, .ireturn, 0, 0, 0)]
def zm_c98_2 : List (Nat × zm_I) := [(22, .iload_n 1, 0, 0, 0), (23, .lookupswitch 88 #[(37, 73), (42, 65), (43, 57), (45, 61), (47, 69), (60, 77)], 57, 0, 0), (80, .iload_n 2, 0, 0, 0), (81, .iload_n 3, 0, 0, 0), (82, .iadd, 0, 0, 0), (83, .ireturn, 0, 0, 0)]
def zm_c98_3 : List (Nat × zm_I) := [(84, .iload_n 2, 0, 0, 0), (85, .iload_n 3, 0, 0, 0), (86, .isub, 0, 0, 0), (87, .ireturn, 0, 0, 0), (88, .iload_n 2, 0, 0, 0), (89, .iload_n 3, 0, 0, 0)]
def zm_c98_4 : List (Nat × zm_I) := [(90, .imul, 0, 0, 0), (91, .ireturn, 0, 0, 0), (92, .iload_n 2, 0, 0, 0), (93, .iload_n 3, 0, 0, 0), (94, .idiv, 0, 0, 0), (95, .ireturn, 0, 0, 0)]
def zm_c98_5 : List (Nat × zm_I) := [(96, .iload_n 2, 0, 0, 0), (97, .iload_n 3, 0, 0, 0), (98, .irem, 0, 0, 0), (99, .ireturn, 0, 0, 0), (100, .iload_n 2, 0, 0, 0), (101, .iload_n 3, 0, 0, 0)]
def zm_c98_6 : List (Nat × zm_I) := [(102, .if_icmp .ge 7, 0, 0, 0), (105, .iconst 1, 0, 0, 0), (106, .goto 4, 0, 0, 0), (109, .iconst 0, 0, 0, 0), (110, .ireturn, 0, 0, 0), (111, .iload_n 2, 0, 0, 0)]
def zm_c98_7 : List (Nat × zm_I) := [(112, .iload_n 3, 0, 0, 0), (113, .if_icmp .ne 7, 0, 0, 0), (116, .iconst 1, 0, 0, 0), (117, .goto 4, 0, 0, 0), (120, .iconst 0, 0, 0, 0), (121, .ireturn, 0, 0, 0)]
def zm_g98 (pc : Nat) : Option zm_I := cond (Nat.blt pc 90) (cond (Nat.blt pc 22) (cond (Nat.blt pc 12) (zm_lk zm_c98_0 pc) (zm_lk zm_c98_1 pc)) (cond (Nat.blt pc 84) (zm_lk zm_c98_2 pc) (zm_lk zm_c98_3 pc))) (cond (Nat.blt pc 102) (cond (Nat.blt pc 96) (zm_lk zm_c98_4 pc) (zm_lk zm_c98_5 pc)) (cond (Nat.blt pc 112) (zm_lk zm_c98_6 pc) (zm_lk zm_c98_7 pc)))
/-- NeedMachineModel.nameAt(I)V -/
def zm_c99_0 : List (Nat × zm_I) := [(0, .aload_n 0, 0, 0, 0), (1, .getfield 31, 5, 7, 0), (4, .iload_n 1, 0, 0, 0), (5, .baload, 0, 0, 0), (6, .ifCond .ne 11, 0, 0, 0), (9, .aload_n 0, 0, 0, 0)]
def zm_c99_1 : List (Nat × zm_I) := [(10, .iconst 2, 0, 0, 0), (11, .putfield 84, 5, 12, 0), (14, .goto 29, 0, 0, 0), (17, .aload_n 0, 0, 0, 0), (18, .getfield 25, 5, 5, 0), (21, .iload_n 1, 0, 0, 0)]
def zm_c99_2 : List (Nat × zm_I) := [(22, .iaload, 0, 0, 0), (23, .ifCond .ne 13, 0, 0, 0), (26, .aload_n 0, 0, 0, 0), (27, .iload_n 1, 0, 0, 0), (28, .iconst (-1), 0, 0, 0), (29, .iconst 0, 0, 0, 0)]
def zm_c99_3 : List (Nat × zm_I) := [(30, .invokevirtual 187, 0, 0, 0), (33, .goto 10, 0, 0, 0), (36, .aload_n 0, 0, 0, 0), (37, .iconst 3, 0, 0, 0), (38, .iload_n 1, 0, 0, 0), (39, .iconst (-1), 0, 0, 0)]
def zm_c99_4 : List (Nat × zm_I) := [(40, .invokevirtual 157, 0, 0, 0), (43, .return_, 0, 0, 0)]
def zm_g99 (pc : Nat) : Option zm_I := cond (Nat.blt pc 22) (cond (Nat.blt pc 10) (zm_lk zm_c99_0 pc) (zm_lk zm_c99_1 pc)) (cond (Nat.blt pc 30) (zm_lk zm_c99_2 pc) (cond (Nat.blt pc 40) (zm_lk zm_c99_3 pc) (zm_lk zm_c99_4 pc)))
/-- NeedMachineModel.answer()I -/
def zm_c100_0 : List (Nat × zm_I) := [(0, .aload_n 0, 0, 0, 0), (1, .aload_n 0, 0, 0, 0), (2, .getfield 84, 5, 12, 0), (5, .ifCond .ne 7, 0, 0, 0), (8, .iconst 1, 0, 0, 0), (9, .goto 4, 0, 0, 0)]
def zm_c100_1 : List (Nat × zm_I) := [(12, .iconst 0, 0, 0, 0), (13, .putfield 216, 5, 43, 0), (16, .aload_n 0, 0, 0, 0), (17, .getfield 216, 5, 43, 0), (20, .ifCond .ne 5, 0, 0, 0), (23, .iconst 0, 0, 0, 0)]
def zm_c100_2 : List (Nat × zm_I) := [(24, .ireturn, 0, 0, 0), (25, .aload_n 0, 0, 0, 0), (26, .aload_n 0, 0, 0, 0), (27, .getfield 144, 5, 37, 0), (30, .putfield 220, 5, 40, 0), (33, .aload_n 0, 0, 0, 0)]
def zm_c100_3 : List (Nat × zm_I) := [(34, .aload_n 0, 0, 0, 0), (35, .getfield 147, 5, 38, 0), (38, .putfield 223, 5, 41, 0), (41, .aload_n 0, 0, 0, 0), (42, .aload_n 0, 0, 0, 0), (43, .getfield 150, 5, 39, 0)]
def zm_c100_4 : List (Nat × zm_I) := [(46, .putfield 226, 5, 42, 0), (49, .aload_n 0, 0, 0, 0), (50, .getfield 220, 5, 40, 0), (53, .ireturn, 0, 0, 0)]
def zm_g100 (pc : Nat) : Option zm_I := cond (Nat.blt pc 24) (cond (Nat.blt pc 12) (zm_lk zm_c100_0 pc) (zm_lk zm_c100_1 pc)) (cond (Nat.blt pc 34) (zm_lk zm_c100_2 pc) (cond (Nat.blt pc 46) (zm_lk zm_c100_3 pc) (zm_lk zm_c100_4 pc)))
/-- NeedMachineModel.number()I -/
def zm_c101_0 : List (Nat × zm_I) := [(0, .aload_n 0, 0, 0, 0), (1, .aload_n 0, 0, 0, 0), (2, .getfield 216, 5, 43, 0), (5, .ifCond .ne 7, 0, 0, 0), (8, .iconst 1, 0, 0, 0), (9, .goto 15, 0, 0, 0)]
def zm_c101_1 : List (Nat × zm_I) := [(12, .aload_n 0, 0, 0, 0), (13, .getfield 220, 5, 40, 0), (16, .ifCond .eq 7, 0, 0, 0), (19, .iconst 2, 0, 0, 0), (20, .goto 4, 0, 0, 0), (23, .iconst 0, 0, 0, 0)]
def zm_c101_2 : List (Nat × zm_I) := [(24, .putfield 84, 5, 12, 0), (27, .aload_n 0, 0, 0, 0), (28, .getfield 84, 5, 12, 0), (31, .ifCond .le 7, 0, 0, 0), (34, .iconst 0, 0, 0, 0), (35, .goto 7, 0, 0, 0)]
def zm_c101_3 : List (Nat × zm_I) := [(38, .aload_n 0, 0, 0, 0), (39, .getfield 223, 5, 41, 0), (42, .ireturn, 0, 0, 0)]
def zm_g101 (pc : Nat) : Option zm_I := cond (Nat.blt pc 24) (cond (Nat.blt pc 12) (zm_lk zm_c101_0 pc) (zm_lk zm_c101_1 pc)) (cond (Nat.blt pc 38) (zm_lk zm_c101_2 pc) (zm_lk zm_c101_3 pc))
/-- NeedMachineModel.head()I -/
def zm_c102_0 : List (Nat × zm_I) := [(0, .aload_n 0, 0, 0, 0), (1, .iconst 1, 0, 0, 0), (2, .invokevirtual 238, 0, 0, 0), (5, .ifCond .eq 10, 0, 0, 0), (8, .aload_n 0, 0, 0, 0), (9, .getfield 147, 5, 38, 0)]
def zm_c102_1 : List (Nat × zm_I) := [(12, .goto 4, 0, 0, 0), (15, .iconst 0, 0, 0, 0), (16, .ireturn, 0, 0, 0)]
def zm_g102 (pc : Nat) : Option zm_I := cond (Nat.blt pc 12) (zm_lk zm_c102_0 pc) (zm_lk zm_c102_1 pc)
/-- NeedMachineModel.side(Z)Z -/
def zm_c103_0 : List (Nat × zm_I) := [(0, .aload_n 0, 0, 0, 0), (1, .aload_n 0, 0, 0, 0), (2, .getfield 216, 5, 43, 0), (5, .ifCond .eq 11, 0, 0, 0), (8, .aload_n 0, 0, 0, 0), (9, .getfield 220, 5, 40, 0)]
def zm_c103_1 : List (Nat × zm_I) := [(12, .iconst 1, 0, 0, 0), (13, .if_icmp .ne 7, 0, 0, 0), (16, .iconst 2, 0, 0, 0), (17, .goto 16, 0, 0, 0), (20, .aload_n 0, 0, 0, 0), (21, .getfield 220, 5, 40, 0)]
def zm_c103_2 : List (Nat × zm_I) := [(24, .iconst 2, 0, 0, 0), (25, .if_icmp .eq 7, 0, 0, 0), (28, .iconst 5, 0, 0, 0), (29, .goto 4, 0, 0, 0), (32, .iconst 0, 0, 0, 0), (33, .putfield 84, 5, 12, 0)]
def zm_c103_3 : List (Nat × zm_I) := [(36, .aload_n 0, 0, 0, 0), (37, .getfield 84, 5, 12, 0), (40, .ifCond .ne 165, 0, 0, 0), (43, .iload_n 1, 0, 0, 0), (44, .ifCond .eq 10, 0, 0, 0), (47, .aload_n 0, 0, 0, 0)]
def zm_c103_4 : List (Nat × zm_I) := [(48, .getfield 223, 5, 41, 0), (51, .goto 7, 0, 0, 0), (54, .aload_n 0, 0, 0, 0), (55, .getfield 226, 5, 42, 0), (58, .istore_n 2, 0, 0, 0), (59, .aload_n 0, 0, 0, 0)]
def zm_c103_5 : List (Nat × zm_I) := [(60, .getfield 45, 5, 15, 0), (63, .iload_n 2, 0, 0, 0), (64, .iaload, 0, 0, 0), (65, .iconst 2, 0, 0, 0), (66, .if_icmp .ne 16, 0, 0, 0), (69, .aload_n 0, 0, 0, 0)]
def zm_c103_6 : List (Nat × zm_I) := [(70, .dup, 0, 0, 0), (71, .getfield 161, 5, 36, 0), (74, .iconst 1, 0, 0, 0), (75, .iadd, 0, 0, 0), (76, .putfield 161, 5, 36, 0), (79, .goto 73, 0, 0, 0)]
def zm_c103_7 : List (Nat × zm_I) := [(82, .aload_n 0, 0, 0, 0), (83, .dup, 0, 0, 0), (84, .getfield 168, 5, 35, 0), (87, .iconst 1, 0, 0, 0), (88, .iadd, 0, 0, 0), (89, .putfield 168, 5, 35, 0)]
def zm_c103_8 : List (Nat × zm_I) := [(92, .aload_n 0, 0, 0, 0), (93, .getfield 45, 5, 15, 0), (96, .iload_n 2, 0, 0, 0), (97, .iconst 1, 0, 0, 0), (98, .iastore, 0, 0, 0), (99, .aload_n 0, 0, 0, 0)]
def zm_c103_9 : List (Nat × zm_I) := [(100, .aload_n 0, 0, 0, 0), (101, .getfield 39, 5, 13, 0), (104, .iload_n 2, 0, 0, 0), (105, .iaload, 0, 0, 0), (106, .aload_n 0, 0, 0, 0), (107, .getfield 42, 5, 14, 0)]
def zm_c103_10 : List (Nat × zm_I) := [(110, .iload_n 2, 0, 0, 0), (111, .iaload, 0, 0, 0), (112, .invokevirtual 232, 0, 0, 0), (115, .aload_n 0, 0, 0, 0), (116, .getfield 45, 5, 15, 0), (119, .iload_n 2, 0, 0, 0)]
def zm_c103_11 : List (Nat × zm_I) := [(120, .iconst 2, 0, 0, 0), (121, .iastore, 0, 0, 0), (122, .aload_n 0, 0, 0, 0), (123, .getfield 48, 5, 16, 0), (126, .iload_n 2, 0, 0, 0), (127, .aload_n 0, 0, 0, 0)]
def zm_c103_12 : List (Nat × zm_I) := [(128, .getfield 144, 5, 37, 0), (131, .iastore, 0, 0, 0), (132, .aload_n 0, 0, 0, 0), (133, .getfield 51, 5, 17, 0), (136, .iload_n 2, 0, 0, 0), (137, .aload_n 0, 0, 0, 0)]
def zm_c103_13 : List (Nat × zm_I) := [(138, .getfield 147, 5, 38, 0), (141, .iastore, 0, 0, 0), (142, .aload_n 0, 0, 0, 0), (143, .getfield 54, 5, 18, 0), (146, .iload_n 2, 0, 0, 0), (147, .aload_n 0, 0, 0, 0)]
def zm_c103_14 : List (Nat × zm_I) := [(148, .getfield 150, 5, 39, 0), (151, .iastore, 0, 0, 0), (152, .aload_n 0, 0, 0, 0), (153, .aload_n 0, 0, 0, 0), (154, .getfield 48, 5, 16, 0), (157, .iload_n 2, 0, 0, 0)]
def zm_c103_15 : List (Nat × zm_I) := [(158, .iaload, 0, 0, 0), (159, .putfield 144, 5, 37, 0), (162, .aload_n 0, 0, 0, 0), (163, .aload_n 0, 0, 0, 0), (164, .getfield 51, 5, 17, 0), (167, .iload_n 2, 0, 0, 0)]
def zm_c103_16 : List (Nat × zm_I) := [(168, .iaload, 0, 0, 0), (169, .putfield 147, 5, 38, 0), (172, .aload_n 0, 0, 0, 0), (173, .aload_n 0, 0, 0, 0), (174, .getfield 54, 5, 18, 0), (177, .iload_n 2, 0, 0, 0)]
def zm_c103_17 : List (Nat × zm_I) := [(178, .iaload, 0, 0, 0), (179, .putfield 150, 5, 39, 0), (182, .aload_n 0, 0, 0, 0), (183, .getfield 84, 5, 12, 0), (186, .ifCond .ne 19, 0, 0, 0), (189, .iload_n 1, 0, 0, 0)]
def zm_c103_18 : List (Nat × zm_I) := [(190, .ifCond .eq 15, 0, 0, 0), (193, .aload_n 0, 0, 0, 0), (194, .getfield 144, 5, 37, 0), (197, .ifCond .eq 8, 0, 0, 0), (200, .aload_n 0, 0, 0, 0), (201, .iconst 5, 0, 0, 0)]
def zm_c103_19 : List (Nat × zm_I) := [(202, .putfield 84, 5, 12, 0), (205, .aload_n 0, 0, 0, 0), (206, .getfield 84, 5, 12, 0), (209, .ifCond .ne 5, 0, 0, 0), (212, .iconst 1, 0, 0, 0), (213, .ireturn, 0, 0, 0)]
def zm_c103_20 : List (Nat × zm_I) := [(214, .aload_n 0, 0, 0, 0), (215, .dup, 0, 0, 0), (216, .getfield 84, 5, 12, 0), (219, .iconst 1, 0, 0, 0), (220, .isub, 0, 0, 0), (221, .putfield 84, 5, 12, 0)]
def zm_c103_21 : List (Nat × zm_I) := [(224, .aload_n 0, 0, 0, 0), (225, .iconst 0, 0, 0, 0), (226, .putfield 216, 5, 43, 0), (229, .iconst 0, 0, 0, 0), (230, .ireturn, 0, 0, 0)]
def zm_g103 (pc : Nat) : Option zm_I := cond (Nat.blt pc 120) (cond (Nat.blt pc 60) (cond (Nat.blt pc 24) (cond (Nat.blt pc 12) (zm_lk zm_c103_0 pc) (zm_lk zm_c103_1 pc)) (cond (Nat.blt pc 36) (zm_lk zm_c103_2 pc) (cond (Nat.blt pc 48) (zm_lk zm_c103_3 pc) (zm_lk zm_c103_4 pc)))) (cond (Nat.blt pc 92) (cond (Nat.blt pc 70) (zm_lk zm_c103_5 pc) (cond (Nat.blt pc 82) (zm_lk zm_c103_6 pc) (zm_lk zm_c103_7 pc))) (cond (Nat.blt pc 100) (zm_lk zm_c103_8 pc) (cond (Nat.blt pc 110) (zm_lk zm_c103_9 pc) (zm_lk zm_c103_10 pc))))) (cond (Nat.blt pc 168) (cond (Nat.blt pc 138) (cond (Nat.blt pc 128) (zm_lk zm_c103_11 pc) (zm_lk zm_c103_12 pc)) (cond (Nat.blt pc 148) (zm_lk zm_c103_13 pc) (cond (Nat.blt pc 158) (zm_lk zm_c103_14 pc) (zm_lk zm_c103_15 pc)))) (cond (Nat.blt pc 202) (cond (Nat.blt pc 178) (zm_lk zm_c103_16 pc) (cond (Nat.blt pc 190) (zm_lk zm_c103_17 pc) (zm_lk zm_c103_18 pc))) (cond (Nat.blt pc 214) (zm_lk zm_c103_19 pc) (cond (Nat.blt pc 224) (zm_lk zm_c103_20 pc) (zm_lk zm_c103_21 pc)))))
/-- NeedMachineModel.tail()I -/
def zm_c104_0 : List (Nat × zm_I) := [(0, .aload_n 0, 0, 0, 0), (1, .iconst 0, 0, 0, 0), (2, .invokevirtual 238, 0, 0, 0), (5, .ifCond .eq 10, 0, 0, 0), (8, .aload_n 0, 0, 0, 0), (9, .invokevirtual 235, 0, 0, 0)]
def zm_c104_1 : List (Nat × zm_I) := [(12, .goto 4, 0, 0, 0), (15, .iconst 0, 0, 0, 0), (16, .ireturn, 0, 0, 0)]
def zm_g104 (pc : Nat) : Option zm_I := cond (Nat.blt pc 12) (zm_lk zm_c104_0 pc) (zm_lk zm_c104_1 pc)
/-- NeedMachineModel.remove(I)V -/
def zm_c105_0 : List (Nat × zm_I) := [(0, .aload_n 0, 0, 0, 0), (1, .iload_n 1, 0, 0, 0), (2, .iconst 0, 0, 0, 0), (3, .iconst 5, 0, 0, 0), (4, .invokestatic 87, 0, 0, 0), (7, .invokevirtual 91, 0, 0, 0)]
def zm_c105_1 : List (Nat × zm_I) := [(10, .ifCond .eq 4, 0, 0, 0), (13, .return_, 0, 0, 0), (14, .aload_n 0, 0, 0, 0), (15, .getfield 31, 5, 7, 0), (18, .iload_n 1, 0, 0, 0), (19, .baload, 0, 0, 0)]
def zm_c105_2 : List (Nat × zm_I) := [(20, .ifCond .ne 8, 0, 0, 0), (23, .aload_n 0, 0, 0, 0), (24, .iconst 2, 0, 0, 0), (25, .putfield 84, 5, 12, 0), (28, .aload_n 0, 0, 0, 0), (29, .getfield 31, 5, 7, 0)]
def zm_c105_3 : List (Nat × zm_I) := [(32, .iload_n 1, 0, 0, 0), (33, .iconst 0, 0, 0, 0), (34, .bastore, 0, 0, 0), (35, .return_, 0, 0, 0)]
def zm_g105 (pc : Nat) : Option zm_I := cond (Nat.blt pc 20) (cond (Nat.blt pc 10) (zm_lk zm_c105_0 pc) (zm_lk zm_c105_1 pc)) (cond (Nat.blt pc 32) (zm_lk zm_c105_2 pc) (zm_lk zm_c105_3 pc))
/-- NeedMachineModel.count(I)I -/
def zm_c106_0 : List (Nat × zm_I) := [(0, .aload_n 0, 0, 0, 0), (1, .iconst 0, 0, 0, 0), (2, .putfield 84, 5, 12, 0), (5, .iconst 0, 0, 0, 0), (6, .istore_n 2, 0, 0, 0), (7, .iconst 0, 0, 0, 0)]
def zm_c106_1 : List (Nat × zm_I) := [(8, .istore_n 3, 0, 0, 0), (9, .iload_n 3, 0, 0, 0), (10, .bipush 6, 0, 0, 0), (12, .if_icmp .ge 21, 0, 0, 0), (15, .aload_n 0, 0, 0, 0), (16, .getfield 31, 5, 7, 0)]
def zm_c106_2 : List (Nat × zm_I) := [(19, .iload_n 3, 0, 0, 0), (20, .baload, 0, 0, 0), (21, .ifCond .eq 6, 0, 0, 0), (24, .iinc 2 1, 0, 0, 0), (27, .iinc 3 1, 0, 0, 0), (30, .goto (-21), 0, 0, 0)]
def zm_c106_3 : List (Nat × zm_I) := [(33, .iload_n 1, 0, 0, 0), (34, .tableswitch 83 0 7 #[46, 51, 56, 58, 63, 68, 73, 78], 46, 0, 0), (80, .aload_n 0, 0, 0, 0), (81, .getfield 35, 5, 9, 0), (84, .ireturn, 0, 0, 0), (85, .aload_n 0, 0, 0, 0)]
def zm_c106_4 : List (Nat × zm_I) := [(86, .getfield 95, 5, 8, 0), (89, .ireturn, 0, 0, 0), (90, .iload_n 2, 0, 0, 0), (91, .ireturn, 0, 0, 0), (92, .aload_n 0, 0, 0, 0), (93, .getfield 175, 5, 33, 0)]
def zm_c106_5 : List (Nat × zm_I) := [(96, .ireturn, 0, 0, 0), (97, .aload_n 0, 0, 0, 0), (98, .getfield 178, 5, 34, 0), (101, .ireturn, 0, 0, 0), (102, .aload_n 0, 0, 0, 0), (103, .getfield 168, 5, 35, 0)]
def zm_c106_6 : List (Nat × zm_I) := [(106, .ireturn, 0, 0, 0), (107, .aload_n 0, 0, 0, 0), (108, .getfield 161, 5, 36, 0), (111, .ireturn, 0, 0, 0), (112, .aload_n 0, 0, 0, 0), (113, .getfield 141, 5, 32, 0)]
def zm_c106_7 : List (Nat × zm_I) := [(116, .ireturn, 0, 0, 0), (117, .iconst (-1), 0, 0, 0), (118, .ireturn, 0, 0, 0)]
def zm_g106 (pc : Nat) : Option zm_I := cond (Nat.blt pc 86) (cond (Nat.blt pc 19) (cond (Nat.blt pc 8) (zm_lk zm_c106_0 pc) (zm_lk zm_c106_1 pc)) (cond (Nat.blt pc 33) (zm_lk zm_c106_2 pc) (zm_lk zm_c106_3 pc))) (cond (Nat.blt pc 106) (cond (Nat.blt pc 96) (zm_lk zm_c106_4 pc) (zm_lk zm_c106_5 pc)) (cond (Nat.blt pc 116) (zm_lk zm_c106_6 pc) (zm_lk zm_c106_7 pc)))
/-- java/util/ArrayList.size()I -/
def zm_c107_0 : List (Nat × zm_I) := [(0, .aload_n 0, 0, 0, 0), (1, .getfield 48, 4, 1, 0), (4, .ireturn, 0, 0, 0)]
def zm_g107 (pc : Nat) : Option zm_I := zm_lk zm_c107_0 pc
/-- java/util/ArrayList.get(I)Ljava/lang/Object; -/
def zm_c108_0 : List (Nat × zm_I) := [(0, .iload_n 1, 0, 0, 0), (1, .aload_n 0, 0, 0, 0), (2, .getfield 48, 4, 1, 0), (5, .invokestatic 118, 0, 0, 0), (8, .pop, 0, 0, 0), (9, .aload_n 0, 0, 0, 0)]
def zm_c108_1 : List (Nat × zm_I) := [(10, .iload_n 1, 0, 0, 0), (11, .invokevirtual 123, 0, 0, 0), (14, .areturn, 0, 0, 0)]
def zm_g108 (pc : Nat) : Option zm_I := cond (Nat.blt pc 10) (zm_lk zm_c108_0 pc) (zm_lk zm_c108_1 pc)
/-- java/util/ArrayList.elementData(I)Ljava/lang/Object; -/
def zm_c109_0 : List (Nat × zm_I) := [(0, .aload_n 0, 0, 0, 0), (1, .getfield 9, 4, 0, 0), (4, .iload_n 1, 0, 0, 0), (5, .aaload, 0, 0, 0), (6, .areturn, 0, 0, 0)]
def zm_g109 (pc : Nat) : Option zm_I := zm_lk zm_c109_0 pc
/-- java/util/ArrayList.add(Ljava/lang/Object;)Z -/
def zm_c110_0 : List (Nat × zm_I) := [(0, .aload_n 0, 0, 0, 0), (1, .dup, 0, 0, 0), (2, .getfield 63, 4, 2, 0), (5, .iconst 1, 0, 0, 0), (6, .iadd, 0, 0, 0), (7, .putfield 63, 4, 2, 0)]
def zm_c110_1 : List (Nat × zm_I) := [(10, .aload_n 0, 0, 0, 0), (11, .aload_n 1, 0, 0, 0), (12, .aload_n 0, 0, 0, 0), (13, .getfield 9, 4, 0, 0), (16, .aload_n 0, 0, 0, 0), (17, .getfield 48, 4, 1, 0)]
def zm_c110_2 : List (Nat × zm_I) := [(20, .invokevirtual 131, 0, 0, 0), (23, .iconst 1, 0, 0, 0), (24, .ireturn, 0, 0, 0)]
def zm_g110 (pc : Nat) : Option zm_I := cond (Nat.blt pc 10) (zm_lk zm_c110_0 pc) (cond (Nat.blt pc 20) (zm_lk zm_c110_1 pc) (zm_lk zm_c110_2 pc))
/-- java/util/ArrayList.add(Ljava/lang/Object;[Ljava/lang/Object;I)V -/
def zm_c111_0 : List (Nat × zm_I) := [(0, .iload_n 3, 0, 0, 0), (1, .aload_n 2, 0, 0, 0), (2, .arraylength, 0, 0, 0), (3, .if_icmp .ne 8, 0, 0, 0), (6, .aload_n 0, 0, 0, 0), (7, .invokevirtual 129, 0, 0, 0)]
def zm_c111_1 : List (Nat × zm_I) := [(10, .astore_n 2, 0, 0, 0), (11, .aload_n 2, 0, 0, 0), (12, .iload_n 3, 0, 0, 0), (13, .aload_n 1, 0, 0, 0), (14, .aastore, 0, 0, 0), (15, .aload_n 0, 0, 0, 0)]
def zm_c111_2 : List (Nat × zm_I) := [(16, .iload_n 3, 0, 0, 0), (17, .iconst 1, 0, 0, 0), (18, .iadd, 0, 0, 0), (19, .putfield 48, 4, 1, 0), (22, .return_, 0, 0, 0)]
def zm_g111 (pc : Nat) : Option zm_I := cond (Nat.blt pc 10) (zm_lk zm_c111_0 pc) (cond (Nat.blt pc 16) (zm_lk zm_c111_1 pc) (zm_lk zm_c111_2 pc))
/-- java/util/ArrayList.grow()[Ljava/lang/Object; -/
def zm_c112_0 : List (Nat × zm_I) := [(0, .aload_n 0, 0, 0, 0), (1, .aload_n 0, 0, 0, 0), (2, .getfield 48, 4, 1, 0), (5, .iconst 1, 0, 0, 0), (6, .iadd, 0, 0, 0), (7, .invokevirtual 69, 0, 0, 0)]
def zm_c112_1 : List (Nat × zm_I) := [(10, .areturn, 0, 0, 0)]
def zm_g112 (pc : Nat) : Option zm_I := cond (Nat.blt pc 10) (zm_lk zm_c112_0 pc) (zm_lk zm_c112_1 pc)
/-- java/util/ArrayList.grow(I)[Ljava/lang/Object; -/
def zm_c113_0 : List (Nat × zm_I) := [(0, .aload_n 0, 0, 0, 0), (1, .getfield 9, 4, 0, 0), (4, .arraylength, 0, 0, 0), (5, .istore_n 2, 0, 0, 0), (6, .iload_n 2, 0, 0, 0), (7, .ifCond .gt 13, 0, 0, 0)]
def zm_c113_1 : List (Nat × zm_I) := [(10, .aload_n 0, 0, 0, 0), (11, .getfield 9, 4, 0, 0), (14, .getstatic 39, 1, 0, 0), (17, .if_acmp .eq 28, 0, 0, 0), (20, .iload_n 2, 0, 0, 0), (21, .iload_n 1, 0, 0, 0)]
def zm_c113_2 : List (Nat × zm_I) := [(22, .iload_n 2, 0, 0, 0), (23, .isub, 0, 0, 0), (24, .iload_n 2, 0, 0, 0), (25, .iconst 1, 0, 0, 0), (26, .ishr, 0, 0, 0), (27, .invokestatic 73, 0, 0, 0)]
def zm_c113_3 : List (Nat × zm_I) := [(30, .istore_n 3, 0, 0, 0), (31, .aload_n 0, 0, 0, 0), (32, .aload_n 0, 0, 0, 0), (33, .getfield 9, 4, 0, 0), (36, .iload_n 3, 0, 0, 0), (37, .invokestatic 66, 0, 0, 0)]
def zm_c113_4 : List (Nat × zm_I) := [(40, .dup_x1, 0, 0, 0), (41, .putfield 9, 4, 0, 0), (44, .areturn, 0, 0, 0), (45, .aload_n 0, 0, 0, 0), (46, .bipush 10, 0, 0, 0), (48, .iload_n 1, 0, 0, 0)]
def zm_c113_5 : List (Nat × zm_I) := [(49, .invokestatic 79, 0, 0, 0), (52, .anewarray 7, 5, 0, 0), (55, .dup_x1, 0, 0, 0), (56, .putfield 9, 4, 0, 0), (59, .areturn, 0, 0, 0)]
def zm_g113 (pc : Nat) : Option zm_I := cond (Nat.blt pc 30) (cond (Nat.blt pc 10) (zm_lk zm_c113_0 pc) (cond (Nat.blt pc 22) (zm_lk zm_c113_1 pc) (zm_lk zm_c113_2 pc))) (cond (Nat.blt pc 40) (zm_lk zm_c113_3 pc) (cond (Nat.blt pc 49) (zm_lk zm_c113_4 pc) (zm_lk zm_c113_5 pc)))
/-- java/util/Objects.checkIndex(II)I -/
def zm_c114_0 : List (Nat × zm_I) := [(0, .iload_n 0, 0, 0, 0), (1, .iload_n 1, 0, 0, 0), (2, .aconst_null, 0, 0, 0), (3, .invokestatic 105, 0, 0, 0), (6, .ireturn, 0, 0, 0)]
def zm_g114 (pc : Nat) : Option zm_I := zm_lk zm_c114_0 pc
/-- jdk/internal/util/Preconditions.checkIndex(IILjava/util/function/BiFunction;)I -/
def zm_c115_0 : List (Nat × zm_I) := [(0, .iload_n 0, 0, 0, 0), (1, .ifCond .lt 8, 0, 0, 0), (4, .iload_n 0, 0, 0, 0), (5, .iload_n 1, 0, 0, 0), (6, .if_icmp .lt 10, 0, 0, 0), (9, .aload_n 2, 0, 0, 0)]
def zm_c115_1 : List (Nat × zm_I) := [(10, .iload_n 0, 0, 0, 0), (11, .iload_n 1, 0, 0, 0), (12, .invokestatic 95, 0, 0, 0), (15, .athrow, 0, 0, 0), (16, .iload_n 0, 0, 0, 0), (17, .ireturn, 0, 0, 0)]
def zm_g115 (pc : Nat) : Option zm_I := cond (Nat.blt pc 10) (zm_lk zm_c115_0 pc) (zm_lk zm_c115_1 pc)
/-- jdk/internal/util/ArraysSupport.newLength(III)I -/
def zm_c116_0 : List (Nat × zm_I) := [(0, .iload_n 0, 0, 0, 0), (1, .iload_n 1, 0, 0, 0), (2, .iload_n 2, 0, 0, 0), (3, .invokestatic 194, 0, 0, 0), (6, .iadd, 0, 0, 0), (7, .istore_n 3, 0, 0, 0)]
def zm_c116_1 : List (Nat × zm_I) := [(8, .iconst 0, 0, 0, 0), (9, .iload_n 3, 0, 0, 0), (10, .if_icmp .ge 11, 0, 0, 0), (13, .iload_n 3, 0, 0, 0), (14, .ldc 200, 0, 0, 2147483639), (16, .if_icmp .gt 5, 0, 0, 0)]
def zm_c116_2 : List (Nat × zm_I) := [(19, .iload_n 3, 0, 0, 0), (20, .ireturn, 0, 0, 0), (21, .iload_n 0, 0, 0, 0), (22, .iload_n 1, 0, 0, 0), (23, .invokestatic 201, 0, 0, 0), (26, .ireturn, 0, 0, 0)]
def zm_g116 (pc : Nat) : Option zm_I := cond (Nat.blt pc 8) (zm_lk zm_c116_0 pc) (cond (Nat.blt pc 19) (zm_lk zm_c116_1 pc) (zm_lk zm_c116_2 pc))
/-- java/util/Arrays.copyOf([Ljava/lang/Object;I)[Ljava/lang/Object; -/
def zm_c117_0 : List (Nat × zm_I) := [(0, .aload_n 0, 0, 0, 0), (1, .iload_n 1, 0, 0, 0), (2, .aload_n 0, 0, 0, 0), (3, .invokevirtual 86, 0, 0, 0), (6, .invokestatic 300, 0, 0, 0), (9, .areturn, 0, 0, 0)]
def zm_g117 (pc : Nat) : Option zm_I := zm_lk zm_c117_0 pc
/-- java/util/Arrays.copyOf([Ljava/lang/Object;ILjava/lang/Class;)[Ljava/lang/Object; -/
def zm_c118_0 : List (Nat × zm_I) := [(0, .aload_n 2, 0, 0, 0), (3, .if_acmp .ne 10, 0, 0, 0), (6, .iload_n 1, 0, 0, 0), (7, .anewarray 2, 5, 0, 0), (10, .goto 14, 0, 0, 0), (13, .aload_n 2, 0, 0, 0)]
def zm_c118_1 : List (Nat × zm_I) := [(14, .invokevirtual 90, 0, 0, 0), (17, .iload_n 1, 0, 0, 0), (18, .invokestatic 95, 0, 0, 0), (24, .astore_n 3, 0, 0, 0), (25, .aload_n 0, 0, 0, 0), (26, .iconst 0, 0, 0, 0)]
def zm_c118_2 : List (Nat × zm_I) := [(27, .aload_n 3, 0, 0, 0), (28, .iconst 0, 0, 0, 0), (29, .aload_n 0, 0, 0, 0), (30, .arraylength, 0, 0, 0), (31, .iload_n 1, 0, 0, 0), (32, .invokestatic 304, 0, 0, 0)]
def zm_c118_3 : List (Nat × zm_I) := [(35, .invokestatic 150, 0, 0, 0), (38, .aload_n 3, 0, 0, 0), (39, .areturn, 0, 0, 0)]
def zm_g118 (pc : Nat) : Option zm_I := cond (Nat.blt pc 27) (cond (Nat.blt pc 14) (zm_lk zm_c118_0 pc) (zm_lk zm_c118_1 pc)) (cond (Nat.blt pc 35) (zm_lk zm_c118_2 pc) (zm_lk zm_c118_3 pc))
def zm_cd (mi pc : Nat) : Option zm_I := cond (Nat.blt mi 59) (cond (Nat.blt mi 29) (cond (Nat.blt mi 14) (cond (Nat.blt mi 7) (cond (Nat.blt mi 3) (cond (Nat.blt mi 1) (cond (Nat.beq mi 0) (zm_g0 pc) none) (cond (Nat.blt mi 2) (cond (Nat.beq mi 1) (zm_g1 pc) none) (cond (Nat.beq mi 2) (zm_g2 pc) none))) (cond (Nat.blt mi 5) (cond (Nat.blt mi 4) (cond (Nat.beq mi 3) (zm_g3 pc) none) (cond (Nat.beq mi 4) (zm_g4 pc) none)) (cond (Nat.blt mi 6) (cond (Nat.beq mi 5) (zm_g5 pc) none) (cond (Nat.beq mi 6) (zm_g6 pc) none)))) (cond (Nat.blt mi 10) (cond (Nat.blt mi 8) (cond (Nat.beq mi 7) (zm_g7 pc) none) (cond (Nat.blt mi 9) (cond (Nat.beq mi 8) (zm_g8 pc) none) (cond (Nat.beq mi 9) (zm_g9 pc) none))) (cond (Nat.blt mi 12) (cond (Nat.blt mi 11) (cond (Nat.beq mi 10) (zm_g10 pc) none) (cond (Nat.beq mi 11) (zm_g11 pc) none)) (cond (Nat.blt mi 13) (cond (Nat.beq mi 12) (zm_g12 pc) none) (cond (Nat.beq mi 13) (zm_g13 pc) none))))) (cond (Nat.blt mi 21) (cond (Nat.blt mi 17) (cond (Nat.blt mi 15) (cond (Nat.beq mi 14) (zm_g14 pc) none) (cond (Nat.blt mi 16) (cond (Nat.beq mi 15) (zm_g15 pc) none) (cond (Nat.beq mi 16) (zm_g16 pc) none))) (cond (Nat.blt mi 19) (cond (Nat.blt mi 18) (cond (Nat.beq mi 17) (zm_g17 pc) none) (cond (Nat.beq mi 18) (zm_g18 pc) none)) (cond (Nat.blt mi 20) (cond (Nat.beq mi 19) (zm_g19 pc) none) (cond (Nat.beq mi 20) (zm_g20 pc) none)))) (cond (Nat.blt mi 25) (cond (Nat.blt mi 23) (cond (Nat.blt mi 22) (cond (Nat.beq mi 21) (zm_g21 pc) none) (cond (Nat.beq mi 22) (zm_g22 pc) none)) (cond (Nat.blt mi 24) (cond (Nat.beq mi 23) (zm_g23 pc) none) (cond (Nat.beq mi 24) (zm_g24 pc) none))) (cond (Nat.blt mi 27) (cond (Nat.blt mi 26) (cond (Nat.beq mi 25) (zm_g25 pc) none) (cond (Nat.beq mi 26) (zm_g26 pc) none)) (cond (Nat.blt mi 28) (cond (Nat.beq mi 27) (zm_g27 pc) none) (cond (Nat.beq mi 28) (zm_g28 pc) none)))))) (cond (Nat.blt mi 44) (cond (Nat.blt mi 36) (cond (Nat.blt mi 32) (cond (Nat.blt mi 30) (cond (Nat.beq mi 29) (zm_g29 pc) none) (cond (Nat.blt mi 31) (cond (Nat.beq mi 30) (zm_g30 pc) none) (cond (Nat.beq mi 31) (zm_g31 pc) none))) (cond (Nat.blt mi 34) (cond (Nat.blt mi 33) (cond (Nat.beq mi 32) (zm_g32 pc) none) (cond (Nat.beq mi 33) (zm_g33 pc) none)) (cond (Nat.blt mi 35) (cond (Nat.beq mi 34) (zm_g34 pc) none) (cond (Nat.beq mi 35) (zm_g35 pc) none)))) (cond (Nat.blt mi 40) (cond (Nat.blt mi 38) (cond (Nat.blt mi 37) (cond (Nat.beq mi 36) (zm_g36 pc) none) (cond (Nat.beq mi 37) (zm_g37 pc) none)) (cond (Nat.blt mi 39) (cond (Nat.beq mi 38) (zm_g38 pc) none) (cond (Nat.beq mi 39) (zm_g39 pc) none))) (cond (Nat.blt mi 42) (cond (Nat.blt mi 41) (cond (Nat.beq mi 40) (zm_g40 pc) none) (cond (Nat.beq mi 41) (zm_g41 pc) none)) (cond (Nat.blt mi 43) (cond (Nat.beq mi 42) (zm_g42 pc) none) (cond (Nat.beq mi 43) (zm_g43 pc) none))))) (cond (Nat.blt mi 51) (cond (Nat.blt mi 47) (cond (Nat.blt mi 45) (cond (Nat.beq mi 44) (zm_g44 pc) none) (cond (Nat.blt mi 46) (cond (Nat.beq mi 45) (zm_g45 pc) none) (cond (Nat.beq mi 46) (zm_g46 pc) none))) (cond (Nat.blt mi 49) (cond (Nat.blt mi 48) (cond (Nat.beq mi 47) (zm_g47 pc) none) (cond (Nat.beq mi 48) (zm_g48 pc) none)) (cond (Nat.blt mi 50) (cond (Nat.beq mi 49) (zm_g49 pc) none) (cond (Nat.beq mi 50) (zm_g50 pc) none)))) (cond (Nat.blt mi 55) (cond (Nat.blt mi 53) (cond (Nat.blt mi 52) (cond (Nat.beq mi 51) (zm_g51 pc) none) (cond (Nat.beq mi 52) (zm_g52 pc) none)) (cond (Nat.blt mi 54) (cond (Nat.beq mi 53) (zm_g53 pc) none) (cond (Nat.beq mi 54) (zm_g54 pc) none))) (cond (Nat.blt mi 57) (cond (Nat.blt mi 56) (cond (Nat.beq mi 55) (zm_g55 pc) none) (cond (Nat.beq mi 56) (zm_g56 pc) none)) (cond (Nat.blt mi 58) (cond (Nat.beq mi 57) (zm_g57 pc) none) (cond (Nat.beq mi 58) (zm_g58 pc) none))))))) (cond (Nat.blt mi 89) (cond (Nat.blt mi 74) (cond (Nat.blt mi 66) (cond (Nat.blt mi 62) (cond (Nat.blt mi 60) (cond (Nat.beq mi 59) (zm_g59 pc) none) (cond (Nat.blt mi 61) (cond (Nat.beq mi 60) (zm_g60 pc) none) (cond (Nat.beq mi 61) (zm_g61 pc) none))) (cond (Nat.blt mi 64) (cond (Nat.blt mi 63) (cond (Nat.beq mi 62) (zm_g62 pc) none) (cond (Nat.beq mi 63) (zm_g63 pc) none)) (cond (Nat.blt mi 65) (cond (Nat.beq mi 64) (zm_g64 pc) none) (cond (Nat.beq mi 65) (zm_g65 pc) none)))) (cond (Nat.blt mi 70) (cond (Nat.blt mi 68) (cond (Nat.blt mi 67) (cond (Nat.beq mi 66) (zm_g66 pc) none) (cond (Nat.beq mi 67) (zm_g67 pc) none)) (cond (Nat.blt mi 69) (cond (Nat.beq mi 68) (zm_g68 pc) none) (cond (Nat.beq mi 69) (zm_g69 pc) none))) (cond (Nat.blt mi 72) (cond (Nat.blt mi 71) (cond (Nat.beq mi 70) (zm_g70 pc) none) (cond (Nat.beq mi 71) (zm_g71 pc) none)) (cond (Nat.blt mi 73) (cond (Nat.beq mi 72) (zm_g72 pc) none) (cond (Nat.beq mi 73) (zm_g73 pc) none))))) (cond (Nat.blt mi 81) (cond (Nat.blt mi 77) (cond (Nat.blt mi 75) (cond (Nat.beq mi 74) (zm_g74 pc) none) (cond (Nat.blt mi 76) (cond (Nat.beq mi 75) (zm_g75 pc) none) (cond (Nat.beq mi 76) (zm_g76 pc) none))) (cond (Nat.blt mi 79) (cond (Nat.blt mi 78) (cond (Nat.beq mi 77) (zm_g77 pc) none) (cond (Nat.beq mi 78) (zm_g78 pc) none)) (cond (Nat.blt mi 80) (cond (Nat.beq mi 79) (zm_g79 pc) none) (cond (Nat.beq mi 80) (zm_g80 pc) none)))) (cond (Nat.blt mi 85) (cond (Nat.blt mi 83) (cond (Nat.blt mi 82) (cond (Nat.beq mi 81) (zm_g81 pc) none) (cond (Nat.beq mi 82) (zm_g82 pc) none)) (cond (Nat.blt mi 84) (cond (Nat.beq mi 83) (zm_g83 pc) none) (cond (Nat.beq mi 84) (zm_g84 pc) none))) (cond (Nat.blt mi 87) (cond (Nat.blt mi 86) (cond (Nat.beq mi 85) (zm_g85 pc) none) (cond (Nat.beq mi 86) (zm_g86 pc) none)) (cond (Nat.blt mi 88) (cond (Nat.beq mi 87) (zm_g87 pc) none) (cond (Nat.beq mi 88) (zm_g88 pc) none)))))) (cond (Nat.blt mi 104) (cond (Nat.blt mi 96) (cond (Nat.blt mi 92) (cond (Nat.blt mi 90) (cond (Nat.beq mi 89) (zm_g89 pc) none) (cond (Nat.blt mi 91) (cond (Nat.beq mi 90) (zm_g90 pc) none) (cond (Nat.beq mi 91) (zm_g91 pc) none))) (cond (Nat.blt mi 94) (cond (Nat.blt mi 93) (cond (Nat.beq mi 92) (zm_g92 pc) none) (cond (Nat.beq mi 93) (zm_g93 pc) none)) (cond (Nat.blt mi 95) (cond (Nat.beq mi 94) (zm_g94 pc) none) (cond (Nat.beq mi 95) (zm_g95 pc) none)))) (cond (Nat.blt mi 100) (cond (Nat.blt mi 98) (cond (Nat.blt mi 97) (cond (Nat.beq mi 96) (zm_g96 pc) none) (cond (Nat.beq mi 97) (zm_g97 pc) none)) (cond (Nat.blt mi 99) (cond (Nat.beq mi 98) (zm_g98 pc) none) (cond (Nat.beq mi 99) (zm_g99 pc) none))) (cond (Nat.blt mi 102) (cond (Nat.blt mi 101) (cond (Nat.beq mi 100) (zm_g100 pc) none) (cond (Nat.beq mi 101) (zm_g101 pc) none)) (cond (Nat.blt mi 103) (cond (Nat.beq mi 102) (zm_g102 pc) none) (cond (Nat.beq mi 103) (zm_g103 pc) none))))) (cond (Nat.blt mi 111) (cond (Nat.blt mi 107) (cond (Nat.blt mi 105) (cond (Nat.beq mi 104) (zm_g104 pc) none) (cond (Nat.blt mi 106) (cond (Nat.beq mi 105) (zm_g105 pc) none) (cond (Nat.beq mi 106) (zm_g106 pc) none))) (cond (Nat.blt mi 109) (cond (Nat.blt mi 108) (cond (Nat.beq mi 107) (zm_g107 pc) none) (cond (Nat.beq mi 108) (zm_g108 pc) none)) (cond (Nat.blt mi 110) (cond (Nat.beq mi 109) (zm_g109 pc) none) (cond (Nat.beq mi 110) (zm_g110 pc) none)))) (cond (Nat.blt mi 115) (cond (Nat.blt mi 113) (cond (Nat.blt mi 112) (cond (Nat.beq mi 111) (zm_g111 pc) none) (cond (Nat.beq mi 112) (zm_g112 pc) none)) (cond (Nat.blt mi 114) (cond (Nat.beq mi 113) (zm_g113 pc) none) (cond (Nat.beq mi 114) (zm_g114 pc) none))) (cond (Nat.blt mi 117) (cond (Nat.blt mi 116) (cond (Nat.beq mi 115) (zm_g115 pc) none) (cond (Nat.beq mi 116) (zm_g116 pc) none)) (cond (Nat.blt mi 118) (cond (Nat.beq mi 117) (zm_g117 pc) none) (cond (Nat.beq mi 118) (zm_g118 pc) none)))))))
end
section
/-! A SMALL MACHINE: the instructions that the methods of this claim use, over a list of locals, a stack and a small heap: a list of cells (the first few are old ones, which are only read) and the number of slots made so far. Its addresses are places in that list; 'ad' turns them into the machine's. What is proved of it is carried to the machine by zm_J. -/
abbrev zm_E : Type := (Nat × vp_A) ⊕ (Nat × List Value)
abbrev zm_H : Type := List zm_E × Nat
abbrev zm_L : Type := List (Nat × Value)
def zm_sh (ad : Nat → Nat) (v : Value) : Value := match v with
  | .ref a => .ref (ad a)
  | .int x => .int x
  | .long x => .long x
  | .float x => .float x
  | .double x => .double x
  | .null => .null
  | .retAddr x => .retAddr x
theorem zm_sh_cat (ad : Nat → Nat) (v : Value) : (zm_sh ad v).category = v.category := by cases v <;> rfl
def zm_shL (ad : Nat → Nat) (lv : zm_L) : zm_L := lv.map (fun q => (q.1, zm_sh ad q.2))
def zm_isI (v : Value) : Bool := match v with | .int _ => true | _ => false
def zm_isL (v : Value) : Bool := match v with | .long _ => true | _ => false
def zm_isR (v : Value) : Bool := match v with | .ref _ => true | .null => true | _ => false
theorem zm_isR_rf (r : Option Nat) : zm_isR (va_rf r) = true := by cases r <;> rfl
theorem zm_isR_of {v : Value} (h : zm_isR v = true) : ∃ r : Option Nat, v = va_rf r := by
  cases v <;> first | (simp [zm_isR] at h; done) | exact ⟨none, rfl⟩ | exact ⟨some _, rfl⟩
theorem zm_isI_of {v : Value} (h : zm_isI v = true) : ∃ x : Int32, v = .int x := by
  cases v <;> first | (simp [zm_isI] at h; done) | exact ⟨_, rfl⟩
theorem zm_isL_of {v : Value} (h : zm_isL v = true) : ∃ x : Int64, v = .long x := by
  cases v <;> first | (simp [zm_isL] at h; done) | exact ⟨_, rfl⟩
theorem zm_cat_rf (r : Option Nat) : (va_rf r).category = 1 := by cases r <;> rfl
/-! the stack alone -/
def zm_ii (st : List Value) (f : Int32 → Int32 → Int32) : Option (List Value) := match st with
  | .int y :: .int x :: r => some (.int (f x y) :: r)
  | _ => none
def zm_ll (st : List Value) (f : Int64 → Int64 → Value) : Option (List Value) := match st with
  | .long y :: .long x :: r => some (f x y :: r)
  | _ => none
def zm_li (st : List Value) (f : Int64 → Int32 → Int64) : Option (List Value) := match st with
  | .int y :: .long x :: r => some (.long (f x y) :: r)
  | _ => none
def zm_i1 (st : List Value) (f : Int32 → Value) : Option (List Value) := match st with
  | .int x :: r => some (f x :: r)
  | _ => none
def zm_l1 (st : List Value) (f : Int64 → Value) : Option (List Value) := match st with
  | .long x :: r => some (f x :: r)
  | _ => none
theorem zm_ii_of {st st' : List Value} {f : Int32 → Int32 → Int32} (h : zm_ii st f = some st') : ∃ x y r, st = .int y :: .int x :: r ∧ st' = .int (f x y) :: r := by
  unfold zm_ii at h
  split at h
  · exact ⟨_, _, _, rfl, (Option.some.inj h).symm⟩
  · cases h
theorem zm_ll_of {st st' : List Value} {f : Int64 → Int64 → Value} (h : zm_ll st f = some st') : ∃ x y r, st = .long y :: .long x :: r ∧ st' = f x y :: r := by
  unfold zm_ll at h
  split at h
  · exact ⟨_, _, _, rfl, (Option.some.inj h).symm⟩
  · cases h
theorem zm_li_of {st st' : List Value} {f : Int64 → Int32 → Int64} (h : zm_li st f = some st') : ∃ x y r, st = .int y :: .long x :: r ∧ st' = .long (f x y) :: r := by
  unfold zm_li at h
  split at h
  · exact ⟨_, _, _, rfl, (Option.some.inj h).symm⟩
  · cases h
theorem zm_i1_of {st st' : List Value} {f : Int32 → Value} (h : zm_i1 st f = some st') : ∃ x r, st = .int x :: r ∧ st' = f x :: r := by
  unfold zm_i1 at h
  split at h
  · exact ⟨_, _, rfl, (Option.some.inj h).symm⟩
  · cases h
theorem zm_l1_of {st st' : List Value} {f : Int64 → Value} (h : zm_l1 st f = some st') : ∃ x r, st = .long x :: r ∧ st' = f x :: r := by
  unfold zm_l1 at h
  split at h
  · exact ⟨_, _, rfl, (Option.some.inj h).symm⟩
  · cases h
def zm_div (st : List Value) (f : Int32 → Int32 → Int32) : Option (List Value) := match st with
  | .int y :: .int x :: r => if y = 0 then none else some (.int (f x y) :: r)
  | _ => none
theorem zm_div_of {st st' : List Value} {f : Int32 → Int32 → Int32} (h : zm_div st f = some st') : ∃ x y r, st = .int y :: .int x :: r ∧ ¬ y = 0 ∧ st' = .int (f x y) :: r := by
  unfold zm_div at h
  split at h
  · split at h
    · cases h
    · rename_i hy
      exact ⟨_, _, _, rfl, hy, (Option.some.inj h).symm⟩
  · cases h
/-- the top, of one word -/
def zm_d1 (st : List Value) (f : Value → List Value → List Value) : Option (List Value) := match st with
  | a :: r => if a.category = 1 then some (f a r) else none
  | _ => none
theorem zm_d1_of {st st' : List Value} {f : Value → List Value → List Value} (h : zm_d1 st f = some st') : ∃ a r, st = a :: r ∧ a.category = 1 ∧ st' = f a r := by
  unfold zm_d1 at h
  split at h
  · split at h
    · rename_i hy
      exact ⟨_, _, rfl, hy, (Option.some.inj h).symm⟩
    · cases h
  · cases h
def zm_d2 (st : List Value) (f : Value → Value → List Value → List Value) : Option (List Value) := match st with
  | a :: b :: r => if a.category = 1 ∧ b.category = 1 then some (f a b r) else none
  | _ => none
theorem zm_d2_of {st st' : List Value} {f : Value → Value → List Value → List Value} (h : zm_d2 st f = some st') : ∃ a b r, st = a :: b :: r ∧ a.category = 1 ∧ b.category = 1 ∧ st' = f a b r := by
  unfold zm_d2 at h
  split at h
  · split at h
    · rename_i hy
      exact ⟨_, _, _, rfl, hy.1, hy.2, (Option.some.inj h).symm⟩
    · cases h
  · cases h
def zm_d3 (st : List Value) (f : Value → Value → Value → List Value → List Value) : Option (List Value) := match st with
  | a :: b :: d :: r => if a.category = 1 ∧ b.category = 1 ∧ d.category = 1 then some (f a b d r) else none
  | _ => none
theorem zm_d3_of {st st' : List Value} {f : Value → Value → Value → List Value → List Value} (h : zm_d3 st f = some st') : ∃ a b d r, st = a :: b :: d :: r ∧ a.category = 1 ∧ b.category = 1 ∧ d.category = 1 ∧ st' = f a b d r := by
  unfold zm_d3 at h
  split at h
  · split at h
    · rename_i hy
      exact ⟨_, _, _, _, rfl, hy.1, hy.2.1, hy.2.2, (Option.some.inj h).symm⟩
    · cases h
  · cases h
def zm_pure (i : Instr) (st : List Value) : Option (List Value) := match i with
  | .iconst n => some (.int (Int32.ofInt n) :: st)
  | .bipush n => some (.int (Int8.ofInt n).toInt32 :: st)
  | .sipush n => some (.int (Int16.ofInt n).toInt32 :: st)
  | .lconst n => some (.long (Int64.ofNat (n : Nat)) :: st)
  | .aconst_null => some (.null :: st)
  | .iadd => zm_ii st (fun x y => x + y)
  | .isub => zm_ii st (fun x y => x - y)
  | .imul => zm_ii st (fun x y => x * y)
  | .iand => zm_ii st (fun x y => x &&& y)
  | .ior => zm_ii st (fun x y => x ||| y)
  | .ixor => zm_ii st (fun x y => x ^^^ y)
  | .ishl => zm_ii st (fun x y => x <<< (y &&& 31))
  | .ishr => zm_ii st (fun x y => x >>> (y &&& 31))
  | .iushr => zm_ii st (fun x y => (x.toUInt32 >>> (y.toUInt32 &&& Int32.toUInt32 31)).toInt32)
  | .idiv => zm_div st (fun x y => x / y)
  | .irem => zm_div st (fun x y => x - x / y * y)
  | .ineg => zm_i1 st (fun x => .int (-x))
  | .ladd => zm_ll st (fun x y => .long (x + y))
  | .lsub => zm_ll st (fun x y => .long (x - y))
  | .land => zm_ll st (fun x y => .long (x &&& y))
  | .lor => zm_ll st (fun x y => .long (x ||| y))
  | .lcmp => zm_ll st (fun x y => .int (lg_cmp x y))
  | .lushr => zm_li st (fun x y => (x.toUInt64 >>> (y.toInt64.toUInt64 &&& Int64.toUInt64 63)).toInt64)
  | .lshl => zm_li st (fun x y => x <<< (y.toInt64 &&& 63))
  | .lshr => zm_li st (fun x y => x >>> (y.toInt64 &&& 63))
  | .i2l => zm_i1 st (fun x => .long x.toInt64)
  | .i2c => zm_i1 st (fun x => .int (x.toUInt32 % 65536).toInt32)
  | .i2b => zm_i1 st (fun x => .int x.toInt8.toInt32)
  | .l2i => zm_l1 st (fun x => .int x.toInt32)
  | .dup => zm_d1 st (fun a r => a :: a :: r)
  | .pop => zm_d1 st (fun _ r => r)
  | .dup_x1 => zm_d2 st (fun a b r => a :: b :: a :: r)
  | .dup2 => zm_d2 st (fun a b r => a :: b :: a :: b :: r)
  | .dup_x2 => zm_d3 st (fun a b d r => a :: b :: d :: a :: r)
  | _ => none
/-- how long an instruction is -/
def zm_len (i : Instr) : Nat := match i with
  | .bipush _ => 2
  | .sipush _ => 3
  | .iload _ => 2
  | .lload _ => 2
  | .aload _ => 2
  | .istore _ => 2
  | .lstore _ => 2
  | .astore _ => 2
  | .iinc _ _ => 3
  | .goto _ => 3
  | .ifCond _ _ => 3
  | .if_icmp _ _ => 3
  | .if_acmp _ _ => 3
  | .ifnull _ => 3
  | .ifnonnull _ => 3
  | .getfield _ => 3
  | .putfield _ => 3
  | .getstatic _ => 3
  | .new _ => 3
  | .newarray _ => 2
  | .anewarray _ => 3
  | .checkcast _ => 3
  | .instanceof _ => 3
  | .ldc _ => 2
  | .ldc2_w _ => 3
  | .invokestatic _ => 3
  | .invokespecial _ => 3
  | .invokevirtual _ => 3
  | _ => 1
section ZP
variable {p : Program} {l : Launch} {e : Env} {R : Room} {s : State} {m : MethodId} {args : Array Value} {below : List Frame} {meth : Method} {c : Code} {H : Heap} {locs : List Loc} {cells slots : Nat} {Q : State → Prop}
variable {cc : ByteArray} {pc : Nat} {ls : Array Slot}
set_option maxHeartbeats 4000000 in
theorem zm_pure_ok (ad : Nat → Nat) (hexec : p.tables.exec = Jvm.exec) (hb : c.code = cc) {i : Instr} {st st' : List Value} (h : zm_pure i st = some st') (hdg : decode cc pc = .ok (i, zm_len i))
    (k : W p l e R s m args below meth c H locs cells slots Q (F0 m (pc + zm_len i) ls (st'.map (zm_sh ad)))) : W p l e R s m args below meth c H locs cells slots Q (F0 m pc ls (st.map (zm_sh ad))) := by
  unfold zm_pure at h
  split at h
  · cases h; exact lv_iconst hexec hb hdg rfl k
  · cases h; exact lv_bipush hexec hb hdg rfl k
  · cases h; exact lv_sipush hexec hb hdg rfl k
  · cases h; exact lv_lconst hexec hb hdg rfl k
  · cases h; exact lv_null hexec hb hdg k
  · obtain ⟨x, y, r, rfl, rfl⟩ := zm_ii_of h; exact lv_iadd hexec hb hdg k
  · obtain ⟨x, y, r, rfl, rfl⟩ := zm_ii_of h; exact lv_isub hexec hb hdg k
  · obtain ⟨x, y, r, rfl, rfl⟩ := zm_ii_of h; exact lv_imul hexec hb hdg k
  · obtain ⟨x, y, r, rfl, rfl⟩ := zm_ii_of h; exact lv_iand hexec hb hdg k
  · obtain ⟨x, y, r, rfl, rfl⟩ := zm_ii_of h; exact lv_ior hexec hb hdg k
  · obtain ⟨x, y, r, rfl, rfl⟩ := zm_ii_of h; exact lv_ixor hexec hb hdg k
  · obtain ⟨x, y, r, rfl, rfl⟩ := zm_ii_of h; exact lv_ishl hexec hb hdg k
  · obtain ⟨x, y, r, rfl, rfl⟩ := zm_ii_of h; exact lv_ishr hexec hb hdg k
  · obtain ⟨x, y, r, rfl, rfl⟩ := zm_ii_of h; exact lv_iushr hexec hb hdg rfl k
  · obtain ⟨x, y, r, rfl, hne, rfl⟩ := zm_div_of h; exact lv_idiv hexec hb hdg hne k
  · obtain ⟨x, y, r, rfl, hne, rfl⟩ := zm_div_of h; exact lv_irem hexec hb hdg hne k
  · obtain ⟨x, r, rfl, rfl⟩ := zm_i1_of h; exact lv_ineg hexec hb hdg k
  · obtain ⟨x, y, r, rfl, rfl⟩ := zm_ll_of h; exact lv_ladd hexec hb hdg k
  · obtain ⟨x, y, r, rfl, rfl⟩ := zm_ll_of h; exact lv_lsub hexec hb hdg k
  · obtain ⟨x, y, r, rfl, rfl⟩ := zm_ll_of h; exact lv_land hexec hb hdg k
  · obtain ⟨x, y, r, rfl, rfl⟩ := zm_ll_of h; exact lv_lor hexec hb hdg k
  · obtain ⟨x, y, r, rfl, rfl⟩ := zm_ll_of h; exact W.lcmp hexec hb hdg k
  · obtain ⟨x, y, r, rfl, rfl⟩ := zm_li_of h; exact lv_lushr hexec hb hdg rfl k
  · obtain ⟨x, y, r, rfl, rfl⟩ := zm_li_of h; exact lv_lshl hexec hb hdg rfl k
  · obtain ⟨x, y, r, rfl, rfl⟩ := zm_li_of h; exact lv_lshr hexec hb hdg rfl k
  · obtain ⟨x, r, rfl, rfl⟩ := zm_i1_of h; exact lv_i2l hexec hb hdg rfl k
  · obtain ⟨x, r, rfl, rfl⟩ := zm_i1_of h; exact lv_i2c hexec hb hdg rfl k
  · obtain ⟨x, r, rfl, rfl⟩ := zm_i1_of h; exact lv_i2b hexec hb hdg rfl k
  · obtain ⟨x, r, rfl, rfl⟩ := zm_l1_of h; exact lv_l2i hexec hb hdg rfl k
  · obtain ⟨a, r, rfl, ha, rfl⟩ := zm_d1_of h; exact lv_dup hexec hb hdg (by rw [zm_sh_cat]; exact ha) k
  · obtain ⟨a, r, rfl, ha, rfl⟩ := zm_d1_of h; exact lv_pop hexec hb hdg (by rw [zm_sh_cat]; exact ha) k
  · obtain ⟨a, b, r, rfl, ha, hb', rfl⟩ := zm_d2_of h; exact lv_dup_x1 hexec hb hdg (by rw [zm_sh_cat]; exact ha) (by rw [zm_sh_cat]; exact hb') k
  · obtain ⟨a, b, r, rfl, ha, hb', rfl⟩ := zm_d2_of h; exact lv_dup2_11 hexec hb hdg (by rw [zm_sh_cat]; exact ha) (by rw [zm_sh_cat]; exact hb') k
  · obtain ⟨a, b, d, r, rfl, ha, hb', hd', rfl⟩ := zm_d3_of h; exact lv_dup_x2 hexec hb hdg (by rw [zm_sh_cat]; exact ha) (by rw [zm_sh_cat]; exact hb') (by rw [zm_sh_cat]; exact hd') k
  · cases h
end ZP
/-! locals -/
def zm_get (lv : zm_L) (i : Nat) : Option Value := match lv with
  | [] => none
  | q :: r => if q.1 = i then some q.2 else zm_get r i
theorem zm_get_mem {lv : zm_L} {i : Nat} {v : Value} (h : zm_get lv i = some v) : (i, v) ∈ lv := by
  induction lv with
  | nil => cases h
  | cons q r ih =>
    unfold zm_get at h
    split at h
    · rename_i hq
      obtain ⟨a, b⟩ := q
      cases Option.some.inj h
      cases hq
      exact List.mem_cons_self
    · exact List.mem_cons_of_mem _ (ih h)
theorem zm_get_sh (ad : Nat → Nat) {lv : zm_L} {i : Nat} {v : Value} (h : zm_get lv i = some v) : zm_get (zm_shL ad lv) i = some (zm_sh ad v) := by
  induction lv with
  | nil => cases h
  | cons q r ih =>
    show (if q.1 = i then some (zm_sh ad q.2) else zm_get (zm_shL ad r) i) = _
    unfold zm_get at h
    split at h
    · rename_i hq
      rw [if_pos hq]
      cases Option.some.inj h
      rfl
    · rename_i hq
      rw [if_neg hq]
      exact ih h
theorem zm_get_ok {ls : Array Slot} {n : Nat} {lv : zm_L} {i : Nat} {v : Value} (hl : lv_has ls n lv) (h : zm_get lv i = some v) : ls[i]? = some (.val v) := hl.2.2 _ (zm_get_mem h)
/-- which local an instruction reads, and what it wants there: 0 an int, 1 a long, 2 a reference -/
def zm_ldi (i : Instr) : Option (Nat × Nat) := match i with
  | .iload_n n => some (0, (n : Nat))
  | .iload n => some (0, n)
  | .lload_n n => some (1, (n : Nat))
  | .lload n => some (1, n)
  | .aload_n n => some (2, (n : Nat))
  | .aload n => some (2, n)
  | _ => none
def zm_okv (k : Nat) (v : Value) : Bool := match k with
  | 0 => zm_isI v
  | 1 => zm_isL v
  | _ => zm_isR v
def zm_load (i : Instr) (lv : zm_L) : Option Value := match zm_ldi i with
  | some q => match zm_get lv q.2 with
    | some v => if zm_okv q.1 v = true then some v else none
    | none => none
  | none => none
theorem zm_load_of {i : Instr} {lv : zm_L} {v : Value} (h : zm_load i lv = some v) : ∃ k n, zm_ldi i = some (k, n) ∧ zm_get lv n = some v ∧ zm_okv k v = true := by
  unfold zm_load at h
  split at h
  · rename_i q hq
    split at h
    · rename_i w hw
      split at h
      · rename_i hk
        cases Option.some.inj h
        exact ⟨q.1, q.2, hq, hw, hk⟩
      · cases h
    · cases h
  · cases h
section ZL
variable {p : Program} {l : Launch} {e : Env} {R : Room} {s : State} {m : MethodId} {args : Array Value} {below : List Frame} {meth : Method} {c : Code} {H : Heap} {locs : List Loc} {cells slots : Nat} {Q : State → Prop}
variable {cc : ByteArray} {pc nL : Nat} {ls : Array Slot}
set_option maxHeartbeats 1000000 in
theorem zm_load_ok (ad : Nat → Nat) (hexec : p.tables.exec = Jvm.exec) (hb : c.code = cc) {i : Instr} {lv : zm_L} {st : List Value} {v : Value} (hl : lv_has ls nL (zm_shL ad lv)) (h : zm_load i lv = some v) (hdg : decode cc pc = .ok (i, zm_len i))
    (k : W p l e R s m args below meth c H locs cells slots Q (F0 m (pc + zm_len i) ls ((v :: st).map (zm_sh ad)))) : W p l e R s m args below meth c H locs cells slots Q (F0 m pc ls (st.map (zm_sh ad))) := by
  obtain ⟨kd, n, h1, h2, h3⟩ := zm_load_of h
  have h2 := zm_get_ok hl (zm_get_sh ad h2)
  unfold zm_ldi at h1
  split at h1
  · cases h1; obtain ⟨x, rfl⟩ := zm_isI_of h3; exact lv_iload_n hexec hb hdg rfl h2 k
  · cases h1; obtain ⟨x, rfl⟩ := zm_isI_of h3; exact lv_iload hexec hb hdg h2 k
  · cases h1; obtain ⟨x, rfl⟩ := zm_isL_of h3; exact lv_lload_n hexec hb hdg rfl h2 k
  · cases h1; obtain ⟨x, rfl⟩ := zm_isL_of h3; exact lv_lload hexec hb hdg h2 k
  · cases h1
    obtain ⟨r, rfl⟩ := zm_isR_of h3
    cases r with
    | none => exact lv_aload_nN hexec hb hdg rfl h2 k
    | some x => exact lv_aload_n hexec hb hdg rfl h2 k
  · cases h1
    obtain ⟨r, rfl⟩ := zm_isR_of h3
    cases r with
    | none => exact lv_aloadN hexec hb hdg h2 k
    | some x => exact lv_aload hexec hb hdg h2 k
  · cases h1
end ZL
def zm_sti (i : Instr) : Option (Nat × Nat) := match i with
  | .istore_n n => some (0, (n : Nat))
  | .istore n => some (0, n)
  | .lstore_n n => some (1, (n : Nat))
  | .lstore n => some (1, n)
  | .astore_n n => some (2, (n : Nat))
  | .astore n => some (2, n)
  | _ => none
def zm_set1 (lv : zm_L) (i : Nat) (v : Value) : zm_L := (i, v) :: lv.filter (fun q => !(q.1 == i) && !(q.1 + 1 == i && q.2.category == 2))
def zm_set2 (lv : zm_L) (i : Nat) (v : Value) : zm_L := (i, v) :: lv.filter (fun q => !(q.1 == i) && (!(q.1 == i + 1) && !(q.1 + 1 == i && q.2.category == 2)))
theorem zm_set1_sh (ad : Nat → Nat) (lv : zm_L) (i : Nat) (v : Value) : zm_shL ad (zm_set1 lv i v) = zm_set1 (zm_shL ad lv) i (zm_sh ad v) := by
  unfold zm_shL zm_set1
  rw [List.map_cons, List.filter_map]
  simp only [Function.comp_def, zm_sh_cat]
theorem zm_set2_sh (ad : Nat → Nat) (lv : zm_L) (i : Nat) (v : Value) : zm_shL ad (zm_set2 lv i v) = zm_set2 (zm_shL ad lv) i (zm_sh ad v) := by
  unfold zm_shL zm_set2
  rw [List.map_cons, List.filter_map]
  simp only [Function.comp_def, zm_sh_cat]
def zm_stor (nL : Nat) (i : Instr) (lv : zm_L) (st : List Value) : Option (zm_L × List Value) := match zm_sti i with
  | some q => match st with
    | v :: r => if zm_okv q.1 v = true ∧ q.2 + 1 < nL + (if q.1 = 1 then 0 else 1) then some (if q.1 = 1 then zm_set2 lv q.2 v else zm_set1 lv q.2 v, r) else none
    | [] => none
  | none => none
theorem zm_stor_of {nL : Nat} {i : Instr} {lv lv' : zm_L} {st st' : List Value} (h : zm_stor nL i lv st = some (lv', st')) : ∃ k n v, zm_sti i = some (k, n) ∧ st = v :: st' ∧ zm_okv k v = true ∧ n + 1 < nL + (if k = 1 then 0 else 1) ∧ lv' = (if k = 1 then zm_set2 lv n v else zm_set1 lv n v) := by
  unfold zm_stor at h
  split at h
  · rename_i q hq
    split at h
    · rename_i v r
      by_cases hk : zm_okv q.1 v = true ∧ q.2 + 1 < nL + (if q.1 = 1 then 0 else 1)
      · rw [if_pos hk] at h
        have e := Option.some.inj h
        cases e
        exact ⟨q.1, q.2, v, hq, rfl, hk.1, hk.2, rfl⟩
      · rw [if_neg hk] at h
        cases h
    · cases h
  · cases h
section ZS
variable {p : Program} {l : Launch} {e : Env} {R : Room} {s : State} {m : MethodId} {args : Array Value} {below : List Frame} {meth : Method} {c : Code} {H : Heap} {locs : List Loc} {cells slots : Nat} {Q : State → Prop}
variable {cc : ByteArray} {pc nL : Nat} {ls : Array Slot}
set_option maxHeartbeats 1000000 in
theorem zm_stor_ok (ad : Nat → Nat) (hexec : p.tables.exec = Jvm.exec) (hb : c.code = cc) {i : Instr} {lv lv' : zm_L} {st st' : List Value} (hl : lv_has ls nL (zm_shL ad lv)) (h : zm_stor nL i lv st = some (lv', st')) (hdg : decode cc pc = .ok (i, zm_len i))
    (kk : ∀ ls' : Array Slot, lv_has ls' nL (zm_shL ad lv') → W p l e R s m args below meth c H locs cells slots Q (F0 m (pc + zm_len i) ls' (st'.map (zm_sh ad)))) : W p l e R s m args below meth c H locs cells slots Q (F0 m pc ls (st.map (zm_sh ad))) := by
  obtain ⟨kd, n, v, h1, rfl, h3, h4, h5⟩ := zm_stor_of h
  unfold zm_sti at h1
  split at h1
  · cases h1; obtain ⟨x, rfl⟩ := zm_isI_of h3; exact lv_istore_n hexec hb hdg rfl hl (Nat.lt_of_succ_lt_succ h4) ((zm_set1_sh ad lv _ _).symm.trans (congrArg (zm_shL ad) h5.symm)) kk
  · cases h1; obtain ⟨x, rfl⟩ := zm_isI_of h3; exact lv_istore hexec hb hdg hl (Nat.lt_of_succ_lt_succ h4) ((zm_set1_sh ad lv _ _).symm.trans (congrArg (zm_shL ad) h5.symm)) kk
  · cases h1; obtain ⟨x, rfl⟩ := zm_isL_of h3; exact lv_lstore_n hexec hb hdg rfl hl h4 ((zm_set2_sh ad lv _ _).symm.trans (congrArg (zm_shL ad) h5.symm)) kk
  · cases h1; obtain ⟨x, rfl⟩ := zm_isL_of h3; exact lv_lstore hexec hb hdg hl h4 ((zm_set2_sh ad lv _ _).symm.trans (congrArg (zm_shL ad) h5.symm)) kk
  · cases h1
    obtain ⟨r, rfl⟩ := zm_isR_of h3
    cases r with
    | none => exact lv_astore_nN hexec hb hdg rfl hl (Nat.lt_of_succ_lt_succ h4) ((zm_set1_sh ad lv _ _).symm.trans (congrArg (zm_shL ad) h5.symm)) kk
    | some x => exact lv_astore_n hexec hb hdg rfl hl (Nat.lt_of_succ_lt_succ h4) ((zm_set1_sh ad lv _ _).symm.trans (congrArg (zm_shL ad) h5.symm)) kk
  · cases h1
    obtain ⟨r, rfl⟩ := zm_isR_of h3
    cases r with
    | none => exact lv_astoreN hexec hb hdg hl (Nat.lt_of_succ_lt_succ h4) ((zm_set1_sh ad lv _ _).symm.trans (congrArg (zm_shL ad) h5.symm)) kk
    | some x => exact lv_astore hexec hb hdg hl (Nat.lt_of_succ_lt_succ h4) ((zm_set1_sh ad lv _ _).symm.trans (congrArg (zm_shL ad) h5.symm)) kk
  · cases h1
end ZS
/-! iinc -/
def zm_inc (nL : Nat) (i : Instr) (lv : zm_L) : Option zm_L := match i with
  | .iinc j n => match zm_get lv j with
    | some (.int x) => if j < nL then some (zm_set1 lv j (.int (x + Int32.ofInt n))) else none
    | _ => none
  | _ => none
theorem zm_inc_of {nL : Nat} {i : Instr} {lv lv' : zm_L} (h : zm_inc nL i lv = some lv') : ∃ j n x, i = .iinc j n ∧ zm_get lv j = some (.int x) ∧ j < nL ∧ lv' = zm_set1 lv j (.int (x + Int32.ofInt n)) := by
  unfold zm_inc at h
  split at h
  · split at h
    · rename_i x hx
      split at h
      · rename_i hj
        exact ⟨_, _, x, rfl, hx, hj, (Option.some.inj h).symm⟩
      · cases h
    · cases h
  · cases h
section ZC
variable {p : Program} {l : Launch} {e : Env} {R : Room} {s : State} {m : MethodId} {args : Array Value} {below : List Frame} {meth : Method} {c : Code} {H : Heap} {locs : List Loc} {cells slots : Nat} {Q : State → Prop}
variable {cc : ByteArray} {pc nL : Nat} {ls : Array Slot}
theorem zm_inc_ok (ad : Nat → Nat) (hexec : p.tables.exec = Jvm.exec) (hb : c.code = cc) {i : Instr} {lv lv' : zm_L} {st : List Value} (hl : lv_has ls nL (zm_shL ad lv)) (h : zm_inc nL i lv = some lv') (hdg : decode cc pc = .ok (i, zm_len i))
    (kk : ∀ ls' : Array Slot, lv_has ls' nL (zm_shL ad lv') → W p l e R s m args below meth c H locs cells slots Q (F0 m (pc + zm_len i) ls' st)) : W p l e R s m args below meth c H locs cells slots Q (F0 m pc ls st) := by
  obtain ⟨j, n, x, rfl, h2, h3, h4⟩ := zm_inc_of h
  obtain ⟨k, hk⟩ := List.getElem?_of_mem (zm_get_mem (zm_get_sh ad h2))
  exact lv_iinc hexec hb hdg hl hk rfl h3 ((zm_set1_sh ad lv _ _).symm.trans (congrArg (zm_shL ad) h4.symm)) kk
end ZC
/-! branches -/
def zm_tgt (pc : Nat) (o : Int) : Option Nat := if 0 ≤ (pc : Int) + o then some ((pc : Int) + o).toNat else none
theorem zm_tgt_of {pc t : Nat} {o : Int} (h : zm_tgt pc o = some t) : (pc : Int) + o = (t : Int) := by
  unfold zm_tgt at h
  split at h
  · cases Option.some.inj h
    omega
  · cases h
def zm_b1 (st : List Value) (f : Int32 → Nat) : Option (Nat × List Value) := match st with
  | .int x :: r => some (f x, r)
  | _ => none
def zm_b2 (st : List Value) (f : Int32 → Int32 → Nat) : Option (Nat × List Value) := match st with
  | .int y :: .int x :: r => some (f x y, r)
  | _ => none
def zm_bn (st : List Value) (a b : Nat) : Option (Nat × List Value) := match st with
  | .null :: r => some (a, r)
  | .ref _ :: r => some (b, r)
  | _ => none
/-- two references: old cells are told apart from new ones alone -/
def zm_ba (no : Nat) (st : List Value) (a b : Nat) : Option (Nat × List Value) := match st with
  | .ref y :: .ref x :: r => if x = y then some (a, r) else if no ≤ x ∨ no ≤ y then some (b, r) else none
  | .null :: .null :: r => some (a, r)
  | .null :: .ref _ :: r => some (b, r)
  | .ref _ :: .null :: r => some (b, r)
  | _ => none
def zm_br0 (no : Nat) (i : Instr) (t pc : Nat) (st : List Value) : Option (Nat × List Value) := match i with
  | .goto _ => some (t, st)
  | .ifCond .eq _ => zm_b1 st (fun x => if x = 0 then t else pc + 3)
  | .ifCond .ne _ => zm_b1 st (fun x => if x = 0 then pc + 3 else t)
  | .ifCond .lt _ => zm_b1 st (fun x => if x < 0 then t else pc + 3)
  | .ifCond .ge _ => zm_b1 st (fun x => if 0 ≤ x then t else pc + 3)
  | .ifCond .gt _ => zm_b1 st (fun x => if 0 < x then t else pc + 3)
  | .ifCond .le _ => zm_b1 st (fun x => if x ≤ 0 then t else pc + 3)
  | .if_icmp .eq _ => zm_b2 st (fun x y => if x = y then t else pc + 3)
  | .if_icmp .ne _ => zm_b2 st (fun x y => if x = y then pc + 3 else t)
  | .if_icmp .lt _ => zm_b2 st (fun x y => if x < y then t else pc + 3)
  | .if_icmp .ge _ => zm_b2 st (fun x y => if y ≤ x then t else pc + 3)
  | .if_icmp .gt _ => zm_b2 st (fun x y => if y < x then t else pc + 3)
  | .if_icmp .le _ => zm_b2 st (fun x y => if x ≤ y then t else pc + 3)
  | .ifnull _ => zm_bn st t (pc + 3)
  | .ifnonnull _ => zm_bn st (pc + 3) t
  | .if_acmp .eq _ => zm_ba no st t (pc + 3)
  | .if_acmp .ne _ => zm_ba no st (pc + 3) t
  | _ => none
theorem zm_b1_of {st st' : List Value} {f : Int32 → Nat} {q : Nat} (h : zm_b1 st f = some (q, st')) : ∃ x, st = .int x :: st' ∧ q = f x := by
  unfold zm_b1 at h
  split at h
  · cases Option.some.inj h; exact ⟨_, rfl, rfl⟩
  · cases h
theorem zm_b2_of {st st' : List Value} {f : Int32 → Int32 → Nat} {q : Nat} (h : zm_b2 st f = some (q, st')) : ∃ x y, st = .int y :: .int x :: st' ∧ q = f x y := by
  unfold zm_b2 at h
  split at h
  · cases Option.some.inj h; exact ⟨_, _, rfl, rfl⟩
  · cases h
theorem zm_bn_of {st st' : List Value} {a b q : Nat} (h : zm_bn st a b = some (q, st')) : (st = .null :: st' ∧ q = a) ∨ ∃ x, st = .ref x :: st' ∧ q = b := by
  unfold zm_bn at h
  split at h
  · cases Option.some.inj h; exact Or.inl ⟨rfl, rfl⟩
  · cases Option.some.inj h; exact Or.inr ⟨_, rfl, rfl⟩
  · cases h
def zm_inj (no : Nat) (ad : Nat → Nat) : Prop := ∀ x y, x ≠ y → (no ≤ x ∨ no ≤ y) → ad x ≠ ad y
theorem zm_ba_of {no : Nat} {ad : Nat → Nat} (hi : zm_inj no ad) {st st' : List Value} {a b q : Nat} (h : zm_ba no st a b = some (q, st')) : ∃ rx ry : Option Nat, st.map (zm_sh ad) = va_rf ry :: va_rf rx :: st'.map (zm_sh ad) ∧ q = if rx = ry then a else b := by
  unfold zm_ba at h
  split at h
  · rename_i y x r
    split at h
    · rename_i hxy
      subst hxy
      cases Option.some.inj h
      exact ⟨some (ad x), some (ad x), rfl, (if_pos rfl).symm⟩
    · rename_i hxy
      split at h
      · rename_i ho
        cases Option.some.inj h
        exact ⟨some (ad x), some (ad y), rfl, (if_neg fun z => hi x y hxy ho (Option.some.inj z)).symm⟩
      · cases h
  · cases Option.some.inj h; exact ⟨none, none, rfl, (if_pos rfl).symm⟩
  · rename_i x r; cases Option.some.inj h; exact ⟨some (ad x), none, rfl, (if_neg fun z => by cases z).symm⟩
  · rename_i x r; cases Option.some.inj h; exact ⟨none, some (ad x), rfl, (if_neg fun z => by cases z).symm⟩
  · cases h
/-- the offset of a jump -/
def zm_off (i : Instr) : Option Int := match i with
  | .goto o => some o
  | .ifCond _ o => some o
  | .if_icmp _ o => some o
  | .if_acmp _ o => some o
  | .ifnull o => some o
  | .ifnonnull o => some o
  | _ => none
def zm_toff (dflt lo hi : Int) (offs : Array Int) (x : Int32) : Option Int := if x.toInt < lo ∨ hi < x.toInt then some dflt else offs[(x.toInt - lo).toNat]?
def zm_loff (dflt : Int) (ps : Array (Int × Int)) (x : Int32) : Option Int := if (ps.toList.zip (ps.toList.drop 1)).all (fun (a, next) => a.1 < next.1) = true then some (Op.lookupswitch.offset ps.toList dflt x.toInt) else none
def zm_sw (st : List Value) (pc : Nat) (f : Int32 → Option Int) : Option (Nat × List Value) := match st with
  | .int x :: r => match f x with
    | some o => match zm_tgt pc o with
      | some t => some (t, r)
      | none => none
    | none => none
  | _ => none
theorem zm_sw_of {st st' : List Value} {pc q : Nat} {f : Int32 → Option Int} (h : zm_sw st pc f = some (q, st')) : ∃ x o, st = .int x :: st' ∧ f x = some o ∧ (pc : Int) + o = (q : Int) := by
  unfold zm_sw at h
  split at h
  · rename_i x r
    split at h
    · rename_i o ho
      split at h
      · rename_i t ht
        cases Option.some.inj h
        exact ⟨x, o, rfl, ho, zm_tgt_of ht⟩
      · cases h
    · cases h
  · cases h
def zm_br (no : Nat) (i : Instr) (pc : Nat) (st : List Value) : Option (Nat × List Value) := match i with
  | .tableswitch dflt lo hi offs => zm_sw st pc (zm_toff dflt lo hi offs)
  | .lookupswitch dflt ps => zm_sw st pc (zm_loff dflt ps)
  | i => match zm_off i with
    | some o => match zm_tgt pc o with
      | some t => zm_br0 no i t pc st
      | none => none
    | none => none
section ZB
variable {p : Program} {l : Launch} {e : Env} {R : Room} {s : State} {m : MethodId} {args : Array Value} {below : List Frame} {meth : Method} {c : Code} {H : Heap} {locs : List Loc} {cells slots : Nat} {Q : State → Prop}
variable {cc : ByteArray} {pc t no : Nat} {ls : Array Slot}
set_option maxHeartbeats 4000000 in
theorem zm_br0_ok (ad : Nat → Nat) (hi : zm_inj no ad) (hexec : p.tables.exec = Jvm.exec) (hb : c.code = cc) {i : Instr} {st st' : List Value} {q : Nat} (h : zm_br0 no i t pc st = some (q, st')) (ht : ∀ o, zm_off i = some o → (pc : Int) + o = (t : Int)) (hdg : decode cc pc = .ok (i, zm_len i))
    (k : W p l e R s m args below meth c H locs cells slots Q (F0 m q ls (st'.map (zm_sh ad)))) : W p l e R s m args below meth c H locs cells slots Q (F0 m pc ls (st.map (zm_sh ad))) := by
  unfold zm_br0 at h
  split at h
  · cases h; exact lv_goto hexec hb hdg (ht _ rfl) k
  · obtain ⟨x, rfl, rfl⟩ := zm_b1_of h; exact lv_if_eq hexec hb hdg (ht _ rfl) (fun z => by rw [if_pos z] at k; exact k) (fun z => by rw [if_neg z] at k; exact k)
  · obtain ⟨x, rfl, rfl⟩ := zm_b1_of h; exact lv_if_ne hexec hb hdg (ht _ rfl) (fun z => by rw [if_neg z] at k; exact k) (fun z => by rw [if_pos z] at k; exact k)
  · obtain ⟨x, rfl, rfl⟩ := zm_b1_of h; exact lv_if_lt hexec hb hdg (ht _ rfl) (fun z => by rw [if_pos z] at k; exact k) (fun z => by rw [if_neg z] at k; exact k)
  · obtain ⟨x, rfl, rfl⟩ := zm_b1_of h; exact lv_if_ge hexec hb hdg (ht _ rfl) (fun z => by rw [if_pos z] at k; exact k) (fun z => by rw [if_neg z] at k; exact k)
  · obtain ⟨x, rfl, rfl⟩ := zm_b1_of h; exact lv_if_gt hexec hb hdg (ht _ rfl) (fun z => by rw [if_pos z] at k; exact k) (fun z => by rw [if_neg z] at k; exact k)
  · obtain ⟨x, rfl, rfl⟩ := zm_b1_of h; exact lv_if_le hexec hb hdg (ht _ rfl) (fun z => by rw [if_pos z] at k; exact k) (fun z => by rw [if_neg z] at k; exact k)
  · obtain ⟨x, y, rfl, rfl⟩ := zm_b2_of h; exact lv_icmp_eq hexec hb hdg (ht _ rfl) (fun z => by rw [if_pos z] at k; exact k) (fun z => by rw [if_neg z] at k; exact k)
  · obtain ⟨x, y, rfl, rfl⟩ := zm_b2_of h; exact lv_icmp_ne hexec hb hdg (ht _ rfl) (fun z => by rw [if_neg z] at k; exact k) (fun z => by rw [if_pos z] at k; exact k)
  · obtain ⟨x, y, rfl, rfl⟩ := zm_b2_of h; exact lv_icmp_lt hexec hb hdg (ht _ rfl) (fun z => by rw [if_pos z] at k; exact k) (fun z => by rw [if_neg z] at k; exact k)
  · obtain ⟨x, y, rfl, rfl⟩ := zm_b2_of h; exact lv_icmp_ge hexec hb hdg (ht _ rfl) (fun z => by rw [if_pos z] at k; exact k) (fun z => by rw [if_neg z] at k; exact k)
  · obtain ⟨x, y, rfl, rfl⟩ := zm_b2_of h; exact lv_icmp_gt hexec hb hdg (ht _ rfl) (fun z => by rw [if_pos z] at k; exact k) (fun z => by rw [if_neg z] at k; exact k)
  · obtain ⟨x, y, rfl, rfl⟩ := zm_b2_of h; exact lv_icmp_le hexec hb hdg (ht _ rfl) (fun z => by rw [if_pos z] at k; exact k) (fun z => by rw [if_neg z] at k; exact k)
  · rcases zm_bn_of h with ⟨rfl, rfl⟩ | ⟨x, rfl, rfl⟩
    · exact lv_ifnullN hexec hb hdg (ht _ rfl) k
    · exact lv_ifnull hexec hb hdg k
  · rcases zm_bn_of h with ⟨rfl, rfl⟩ | ⟨x, rfl, rfl⟩
    · exact lv_ifnonnullN hexec hb hdg k
    · exact lv_ifnonnull hexec hb hdg (ht _ rfl) k
  · obtain ⟨rx, ry, e1, rfl⟩ := zm_ba_of hi h; rw [e1]; exact lv_acmp_eq hexec hb hdg (ht _ rfl) (fun z => by rw [if_pos z] at k; exact k) (fun z => by rw [if_neg z] at k; exact k)
  · obtain ⟨rx, ry, e1, rfl⟩ := zm_ba_of hi h; rw [e1]; exact lv_acmp_ne hexec hb hdg (ht _ rfl) (fun z => by rw [if_neg z] at k; exact k) (fun z => by rw [if_pos z] at k; exact k)
  · cases h
theorem zm_br_ok (ad : Nat → Nat) (hi : zm_inj no ad) (hexec : p.tables.exec = Jvm.exec) (hb : c.code = cc) {i : Instr} {st st' : List Value} {q len : Nat} (h : zm_br no i pc st = some (q, st')) (hdg : decode cc pc = .ok (i, len)) (hlen : (zm_off i).isSome = true → len = zm_len i)
    (k : W p l e R s m args below meth c H locs cells slots Q (F0 m q ls (st'.map (zm_sh ad)))) : W p l e R s m args below meth c H locs cells slots Q (F0 m pc ls (st.map (zm_sh ad))) := by
  unfold zm_br at h
  split at h
  · obtain ⟨x, o, rfl, h1, h2⟩ := zm_sw_of h
    unfold zm_toff at h1
    split at h1
    · rename_i hx
      cases Option.some.inj h1
      exact lv_tableOut hexec hb hdg hx h2 k
    · rename_i hx
      exact lv_tableIn hexec hb hdg (fun z => hx (Or.inl z)) (fun z => hx (Or.inr z)) h1 h2 k
  · obtain ⟨x, o, rfl, h1, h2⟩ := zm_sw_of h
    unfold zm_loff at h1
    split at h1
    · rename_i hx
      exact lv_lookup hexec hb hdg hx (Option.some.inj h1) h2 k
    · cases h1
  · split at h
    · rename_i o ho
      split at h
      · rename_i t ht
        have hz := hlen (by rw [ho]; rfl)
        subst hz
        exact zm_br0_ok ad hi hexec hb h (fun o' ho' => by rw [ho] at ho'; cases Option.some.inj ho'; exact zm_tgt_of ht) hdg k
      · cases h
    · cases h
end ZB
end
section
/-! THE SMALL HEAP IN THE MACHINE's, AND THE JUDGEMENT zm_J: from here the method comes to an end of which Q speaks. -/
/-- what is known at the law's start: the words of the tables; the kinds of objects (D) and of arrays (kA) -/
def zm_K (D : va_G) (kA : Nat → ClassId) (U : State) : Prop := (∀ (c : Nat) (q : vw_C), zm_cl[c]? = some q → u_Kn U q.1 q.2.1 q.2.2 (D.1 c) (D.2 c)) ∧ ∀ (k : Nat) (ty : FieldType), zm_aty[k]? = some ty → ArrOfT U (kA k) ty ∧ va_RA U (kA k) ty
theorem zm_K.moved {D : va_G} {kA : Nat → ClassId} {u U : State} (hvm : u.vm.Alike U.vm) (h : zm_K D kA u) : zm_K D kA U := ⟨fun c q hq => u_Kn_moved hvm (h.1 c q hq), fun k ty hk => ⟨arrOfT_moved hvm (h.2 k ty hk).1, (h.2 k ty hk).2.moved hvm⟩⟩
abbrev zm_X : Type := Launch × State × va_G × (Nat → ClassId) × (Nat → Nat)
def zm_G0 (x : zm_X) : Prop := (∃ A : Array Value, ∀ w ∈ zm_tb, w.before A x.2.1 = true) ∧ zm_K x.2.2.1 x.2.2.2.1 x.2.1 ∧ x.1.stackTraces = false ∧ (∀ k, k < zm_no → x.2.2.2.2 k < x.2.1.heap.size) ∧
  ∀ q ∈ zm_os, q.1 < zm_no ∧ va_Z q.2.1 q.2.2.1 q.2.2.2 (.ref (x.2.2.2.2 q.1)) (fun a => x.2.1.heap.size ≤ a) x.2.1 x.2.1.heap
abbrev zm_N : Type := { x : zm_X // zm_G0 x }
abbrev zm_N.l (N : zm_N) : Launch := N.1.1
abbrev zm_N.s0 (N : zm_N) : State := N.1.2.1
abbrev zm_N.D (N : zm_N) : va_G := N.1.2.2.1
abbrev zm_N.kA (N : zm_N) : Nat → ClassId := N.1.2.2.2.1
/-- the lowest address that may be written -/
abbrev zm_N.b (N : zm_N) : Nat := N.s0.heap.size
def zm_N.ad (N : zm_N) (k : Nat) : Nat := if k < zm_no then N.1.2.2.2.2 k else N.b + (k - zm_no)
theorem zm_ad_new (N : zm_N) {k : Nat} (h : zm_no ≤ k) : N.ad k = N.b + (k - zm_no) := if_neg (Nat.not_lt.mpr h)
theorem zm_ad_old (N : zm_N) {k : Nat} (h : k < zm_no) : N.ad k < N.b := by
  unfold zm_N.ad
  rw [if_pos h]
  exact N.2.2.2.2.1 k h
theorem zm_ad_inj (N : zm_N) : zm_inj zm_no N.ad := by
  intro x y hxy ho he
  rcases Nat.lt_or_ge x zm_no with hx | hx
  · rcases Nat.lt_or_ge y zm_no with hy | hy
    · omega
    · have := zm_ad_old N hx
      rw [he, zm_ad_new N hy] at this
      omega
  · rcases Nat.lt_or_ge y zm_no with hy | hy
    · have := zm_ad_old N hy
      rw [← he, zm_ad_new N hx] at this
      omega
    · rw [zm_ad_new N hx, zm_ad_new N hy] at he
      omega
/-- an array, its references turned -/
def zm_sha (ad : Nat → Nat) (a : vp_A) : vp_A := match a.2 with
  | .inr (.inr (.inr (.inr f))) => (a.1, .inr (.inr (.inr (.inr fun j => (f j).map ad))))
  | _ => a
/-- an array's element -/
def zm_el (a : vp_A) (j : Nat) : Value := match a.2 with
  | .inl f => .int (f j)
  | .inr (.inl f) => .long (f j)
  | .inr (.inr (.inl f)) => .float (f j)
  | .inr (.inr (.inr (.inl f))) => .double (f j)
  | .inr (.inr (.inr (.inr f))) => va_rf (f j)
theorem zm_cell_el (cA : ClassId) (a : vp_A) : vp_cell cA a = arrV cA a.1 (zm_el a) := by
  obtain ⟨n, f | f | f | f | f⟩ := a <;> rfl
theorem zm_sha_1 (ad : Nat → Nat) (a : vp_A) : (zm_sha ad a).1 = a.1 := by
  obtain ⟨n, f | f | f | f | f⟩ := a <;> rfl
theorem zm_rf_sh (ad : Nat → Nat) (r : Option Nat) : va_rf (r.map ad) = zm_sh ad (va_rf r) := by cases r <;> rfl
theorem zm_sha_el (ad : Nat → Nat) (a : vp_A) (j : Nat) : zm_el (zm_sha ad a) j = zm_sh ad (zm_el a j) := by
  obtain ⟨n, f | f | f | f | f⟩ := a
  · rfl
  · rfl
  · rfl
  · rfl
  · exact zm_rf_sh ad (f j)
def zm_at (N : zm_N) (k : Nat) (e : zm_E) (H : Heap) : Prop := match e with
  | .inl x => (zm_no ≤ k → H[N.ad k]? = some (vp_cell (N.kA x.1) (zm_sha N.ad x.2))) ∧
      ∃ (cell : Cell) (ty : FieldType), zm_aty[x.1]? = some ty ∧ H[N.ad k]? = some cell ∧ N.s0.isArrayOf cell ty ∧ cell.vm ≠ .unknown ∧ cell.slots.size = x.2.1 ∧ ∀ j : Nat, j < x.2.1 → cell.slots[j]? = some (zm_sh N.ad (zm_el x.2 j))
  | .inr x => x.1 < zm_cl.length → va_at N.D zm_cl (N.ad k, .inr (x.1, x.2.map (zm_sh N.ad))) H
theorem zm_at.kept {N : zm_N} {k : Nat} {e : zm_E} {H H' : Heap} (h : zm_at N k e H) (hq : H'[N.ad k]? = H[N.ad k]?) : zm_at N k e H' := by
  cases e with
  | inl x =>
    obtain ⟨h1, cell, ty, h2, h3, h4⟩ := h
    exact ⟨fun z => by rw [hq]; exact h1 z, cell, ty, h2, by rw [hq]; exact h3, h4⟩
  | inr x => exact fun z => (h z).kept hq
/-- a new array stands -/
theorem zm_at.arr {N : zm_N} {k t : Nat} {a : vp_A} {ty : FieldType} {H : Heap} (ht : zm_aty[t]? = some ty) (h : H[N.ad k]? = some (vp_cell (N.kA t) (zm_sha N.ad a))) : zm_at N k (.inl (t, a)) H := by
  refine ⟨fun _ => h, _, ty, ht, h, ?_, ?_, ?_, ?_⟩
  · rw [zm_cell_el]
    exact (N.2.2.1.2 t ty ht).1 _ _
  · rw [zm_cell_el]
    exact fun z => by cases z
  · rw [zm_cell_el, arrV_size, zm_sha_1]
  · intro j hj
    rw [zm_cell_el, arrV_read _ _ (by rw [zm_sha_1]; exact hj), zm_sha_el]
def zm_Rp (N : zm_N) (G : zm_H) (H : Heap) : Prop :=
  H.size + zm_no = N.b + G.1.length ∧ zm_no ≤ G.1.length ∧ (∀ (k : Nat) (e : zm_E), G.1[k]? = some e → zm_at N k e H) ∧ ∀ q : Nat, q < N.b → H[q]? = N.s0.heap[q]?
/-- how a method ends: it gives a value or none, or it throws (the number of the exception's kind, its place) -/
abbrev zm_O : Type := Option Value ⊕ (Nat × Nat)
/-- what is known of a thrown thing -/
def zm_xc (N : zm_N) (x : Nat × Nat) (t : State) : Prop := ∃ (C : String) (cell : Cell), zm_xn[x.1]? = some C ∧ t.heap[N.ad x.2]? = some cell ∧ cell.vm = .none ∧ t.vm.findClass C = some cell.cls
def zm_om (N : zm_N) (z : zm_O) (o : Outcome) (t : State) : Prop := match z with
  | .inl v => o = .returned (v.map (zm_sh N.ad))
  | .inr x => o = .threw (N.ad x.2) ∧ zm_xc N x t
def zm_End (N : zm_N) (s : State) (sl0 : Nat) (below : List Frame) (Q : zm_O → zm_H → Prop) (t : State) : Prop :=
  ∃ (z : zm_O) (G : zm_H) (o : Outcome) (L : List Loc) (cells slots : Nat), t.status = .running ∧ Ended t below o ∧ zm_om N z o t ∧ Q z G ∧ zm_Rp N G t.heap ∧ s.WarmedH t.vm ∧ s.sameButNew ({ t with vm := s.vm } : State) L cells slots ∧ (∀ q ∈ L, N.b ≤ q.base) ∧ s.heap.size + cells = t.heap.size ∧ sl0 + slots = G.2
/-- an invocation of the method mi, with d frames of room -/
def zm_Cx (N : zm_N) (d mi : Nat) (p : Program) (R : Room) (s : State) (m : MethodId) (meth : Method) (c : Code) (sl0 : Nat) : Prop :=
  p.tables.exec = Jvm.exec ∧ c.code = zm_by mi ∧ c.maxLocals = zm_nl mi ∧ s.vm.findClass (zm_mn mi).cls = some m.cls ∧ N.s0.WarmedH s.vm ∧ meth.locks = false ∧ meth.sig.returnType = zm_rt mi ∧ meth.name = (zm_mn mi).name ∧
  c.exceptionTable.toList = tableOf (zm_hd mi) ∧ d ≤ R.frames ∧ zm_w * d ≤ R.locals ∧ N.b + zm_C ≤ s.heap.size + R.cells + zm_no ∧ zm_S ≤ sl0 + R.slots
def zm_J (N : zm_N) (d mi pc : Nat) (lv : zm_L) (st : List Value) (G : zm_H) (Q : zm_O → zm_H → Prop) : Prop :=
  ∀ (p : Program) (e : Env) (R : Room) (s : State) (m : MethodId) (args : Array Value) (below : List Frame) (meth : Method) (c : Code) (sl0 : Nat), zm_Cx N d mi p R s m meth c sl0 →
  ∀ (H : Heap) (locs : List Loc) (ls : Array Slot) (cells slots : Nat), zm_Rp N G H → lv_has ls (zm_nl mi) (zm_shL N.ad lv) → (∀ q ∈ locs, N.b ≤ q.base) → s.heap.size + cells = H.size → sl0 + slots = G.2 →
    W p N.l e R s m args below meth c H locs cells slots (zm_End N s sl0 below Q) (F0 m pc ls (st.map (zm_sh N.ad)))
theorem zm_Wmono {p : Program} {l : Launch} {e : Env} {R : Room} {s : State} {m : MethodId} {args : Array Value} {below : List Frame} {meth : Method} {c : Code} {H : Heap} {locs : List Loc} {cells slots : Nat} {Q Q' : State → Prop} {g : JFrame} (h : ∀ t, Q t → Q' t)
    (k : W p l e R s m args below meth c H locs cells slots Q g) : W p l e R s m args below meth c H locs cells slots Q' g := fun T hT X => by
  obtain ⟨t, a, b⟩ := k T hT X
  exact ⟨t, a, h t b⟩
theorem zm_End.mono {N : zm_N} {s : State} {sl0 : Nat} {below : List Frame} {Q Q' : zm_O → zm_H → Prop} (h : ∀ z G, Q z G → Q' z G) {t : State} (k : zm_End N s sl0 below Q t) : zm_End N s sl0 below Q' t := by
  obtain ⟨z, G, o, L, ce, sl, a1, a2, a3, a4, a5⟩ := k
  exact ⟨z, G, o, L, ce, sl, a1, a2, a3, h z G a4, a5⟩
theorem zm_J.mono {N : zm_N} {d mi pc : Nat} {lv : zm_L} {st : List Value} {G : zm_H} {Q Q' : zm_O → zm_H → Prop} (k : zm_J N d mi pc lv st G Q) (h : ∀ z G, Q z G → Q' z G) : zm_J N d mi pc lv st G Q' :=
  fun p e R s m args below meth c sl0 C H locs ls cells slots h1 h2 h3 h4 h5 => zm_Wmono (fun _ q => q.mono h) (k p e R s m args below meth c sl0 C H locs ls cells slots h1 h2 h3 h4 h5)
/-! words -/
theorem zm_wd (N : zm_N) {U : State} (hW : N.s0.WarmedH U.vm) {w : Cond} (hw : w ∈ zm_tb) (hg : (w.onTables && w.keeps) = true) (a : Array Value) : w.before a U = true := by
  obtain ⟨A, hA⟩ := N.2.1
  exact word_at hW (Or.inl hg) (hA w hw)
theorem zm_wdA (N : zm_N) {U : State} (hW : N.s0.WarmedH U.vm) {ty : FieldType} (hw : Cond.arrayClass ty ∈ zm_tb) (a : Array Value) : (Cond.arrayClass ty).before a U = true := by
  obtain ⟨A, hA⟩ := N.2.1
  exact word_at hW (Or.inr ⟨ty, rfl⟩) (hA _ hw)
theorem zm_kn (N : zm_N) {U : State} (hW : N.s0.WarmedH U.vm) : zm_K N.D N.kA U := N.2.2.1.moved hW.alike
/-! the heap's moves -/
def zm_set (G : zm_H) (a : Nat) (e : zm_E) : zm_H := (G.1.set a e, G.2)
def zm_new (G : zm_H) (e : zm_E) (n : Nat) : zm_H := (G.1 ++ [e], G.2 + n)
theorem zm_Rp.lt {N : zm_N} {G : zm_H} {a : Nat} {e : zm_E} (ha : G.1[a]? = some e) : a < G.1.length := (List.getElem?_eq_some_iff.mp ha).1
theorem zm_Rp.ne {N : zm_N} {G : zm_H} {a q : Nat} {e e' : zm_E} (hn : zm_no ≤ a) (h : q ≠ a) : N.ad q ≠ N.ad a := zm_ad_inj N q a h (Or.inr hn)
theorem zm_Rp.set {N : zm_N} {G : zm_H} {H H' : Heap} (h : zm_Rp N G H) {a : Nat} {e : zm_E} (hn : zm_no ≤ a) (ha : zm_at N a e H') (hz : H'.size = H.size) (ho : ∀ q : Nat, q ≠ N.ad a → H'[q]? = H[q]?) : zm_Rp N (zm_set G a e) H' := by
  refine ⟨by rw [hz, h.1]; simp [zm_set], by simp only [zm_set, List.length_set]; exact h.2.1, fun q x hq => ?_, fun q hq => ?_⟩
  · by_cases hqa : q = a
    · subst hqa
      have hl : q < G.1.length := by
        have := (List.getElem?_eq_some_iff.mp hq).1
        simpa [zm_set] using this
      have : (zm_set G q e).1[q]? = some e := by simp [zm_set, hl]
      rw [this] at hq
      cases hq
      exact ha
    · have : (zm_set G a e).1[q]? = G.1[q]? := by simp only [zm_set]; exact List.getElem?_set_ne (Ne.symm hqa)
      rw [this] at hq
      exact (h.2.2.1 q x hq).kept (ho _ (zm_ad_inj N q a hqa (Or.inr hn)))
  · rw [ho q (by have := zm_ad_new N hn; omega)]
    exact h.2.2.2 q hq
theorem zm_Rp.new {N : zm_N} {G : zm_H} {H H' : Heap} (h : zm_Rp N G H) {e : zm_E} {n : Nat} (ha : zm_at N G.1.length e H') (hz : H'.size = H.size + 1) (ho : ∀ q : Nat, q < H.size → H'[q]? = H[q]?) : zm_Rp N (zm_new G e n) H' := by
  have h1 := h.1
  have h2 := h.2.1
  refine ⟨by rw [hz]; simp only [zm_new, List.length_append, List.length_singleton]; omega, by simp only [zm_new, List.length_append, List.length_singleton]; omega, fun q x hq => ?_, fun q hq => ?_⟩
  · by_cases hqa : q = G.1.length
    · subst hqa
      have : (zm_new G e n).1[G.1.length]? = some e := by simp [zm_new]
      rw [this] at hq
      cases hq
      exact ha
    · have hl : q < G.1.length := by
        have := (List.getElem?_eq_some_iff.mp hq).1
        simp only [zm_new, List.length_append, List.length_singleton] at this
        omega
      have : (zm_new G e n).1[q]? = G.1[q]? := by simp only [zm_new]; exact List.getElem?_append_left hl
      rw [this] at hq
      refine (h.2.2.1 q x hq).kept (ho _ ?_)
      rcases Nat.lt_or_ge q zm_no with hx | hx
      · have := zm_ad_old N hx
        omega
      · rw [zm_ad_new N hx]
        omega
  · rw [ho q (by omega)]
    exact h.2.2.2 q hq
theorem zm_Rp.next {N : zm_N} {G : zm_H} {H : Heap} (h : zm_Rp N G H) : N.ad G.1.length = H.size := by
  rw [zm_ad_new N h.2.1]
  have := h.1
  have := h.2.1
  omega
end
section
/-! CALLS: a callee's judgement, from its entry, serves every call of it. -/
theorem zm_weaken {tb : Tables} {e : Env} {g : Frame} {below : List Frame} {a b : State} (h : Steps tb e (g :: below) a b) : Steps tb e below a b := by
  obtain ⟨n, hn, hw⟩ := h
  exact ⟨n, hn, fun k hk => Within.weaken (mid := [g]) (hw k hk)⟩
theorem zm_args_sh (ad : Nat → Nat) (vs : List Value) : ∀ i : Nat, lv_args i (vs.map (zm_sh ad)) = zm_shL ad (lv_args i vs) := by
  induction vs with
  | nil => intro i; rfl
  | cons v r ih =>
    intro i
    show (i, zm_sh ad v) :: lv_args (if (zm_sh ad v).category = 2 then i + 2 else i + 1) (r.map (zm_sh ad)) = (i, zm_sh ad v) :: zm_shL ad (lv_args (if v.category = 2 then i + 2 else i + 1) r)
    rw [zm_sh_cat, ih]
theorem zm_sl_sh (ad : Nat → Nat) (vs : List Value) : (lg_sl (vs.map (zm_sh ad))).length = (lg_sl vs).length := by
  induction vs with
  | nil => rfl
  | cons v r ih =>
    unfold lg_sl at ih ⊢
    rw [List.map_cons, List.flatMap_cons, List.flatMap_cons, List.length_append, List.length_append, ih, zm_sh_cat]
    by_cases h : v.category = 2
    · rw [if_pos h, if_pos h]; rfl
    · rw [if_neg h, if_neg h]; rfl
theorem zm_cat_sh (ad : Nat → Nat) (vs : List Value) : ((vs.map (zm_sh ad)).map fun v => v.category).sum = (vs.map fun v => v.category).sum := by
  rw [List.map_map]
  exact congrArg List.sum (List.map_congr_left fun v _ => zm_sh_cat ad v)
/-- the method's code stands in the tables -/
def zm_okm (mj : Nat) : Prop := plainName (zm_mn mj).cls = true ∧ ((Cond.code (zm_mn mj) (zm_by mj) (zm_nl mj) (zm_rt mj) ∈ zm_tb ∧ zm_hd mj = []) ∨ Cond.codeWith (zm_mn mj) (zm_by mj) (zm_nl mj) (zm_rt mj) (zm_hd mj) ∈ zm_tb)
theorem zm_okm_spec (N : zm_N) {U : State} (hW : N.s0.WarmedH U.vm) {mj : Nat} (h : zm_okm mj) :
    ∃ (mk : MethodId) (methk : Method) (ck : Code), U.methodNamed? (zm_mn mj) = some mk ∧ U.vm.method? mk = some methk ∧ methk.code = some ck ∧ ck.code = zm_by mj ∧ ck.maxLocals = zm_nl mj ∧ methk.sig.returnType = zm_rt mj ∧ methk.locks = false ∧ ck.exceptionTable.toList = tableOf (zm_hd mj) ∧ parseMethodDescriptor (zm_mn mj).desc = some methk.sig := by
  rcases h.2 with ⟨h1, h2⟩ | h1
  · have hw := zm_wd N hW h1 rfl #[]
    obtain ⟨mk, hn⟩ := Cond.code_named hw
    obtain ⟨methk, ck, a1, a2, a3, a4, a5, a6, a7, a8⟩ := Cond.code_spec hn hw
    refine ⟨mk, methk, ck, hn, a1, a2, a3, a4, a5, a6, ?_, a8⟩
    rw [h2]
    have : ck.exceptionTable = #[] := by simpa using a7
    rw [this]
    rfl
  · obtain ⟨mk, methk, ck, hn, a1, a2, a3, a4, a5, a6, a7, a8⟩ := Cond.codeWith_spec (zm_wd N hW h1 rfl #[])
    refine ⟨mk, methk, ck, hn, a1, a2, a3, a4, a6, a7, ?_, a8⟩
    rw [← a5, tableOf, List.map_map]
    exact (List.map_id' _).symm.trans (List.map_congr_left fun x _ => by cases x; rfl)
set_option maxHeartbeats 4000000 in
theorem zm_callc {N : zm_N} {d mi mj : Nat} {av : List Value} {G : zm_H} {Q1 : zm_O → zm_H → Prop} (hJ : zm_J N d mj 0 (lv_args 0 av) [] G Q1) (hok : zm_okm mj)
    {p : Program} {e : Env} {R : Room} {s : State} {m : MethodId} {args : Array Value} {below : List Frame} {meth : Method} {c : Code} {sl0 : Nat} (C : zm_Cx N (d + 1) mi p R s m meth c sl0)
    {T : State} {locs : List Loc} {cells slots : Nat} (X : Stand p N.l e R s m args below meth c T locs cells slots) (hR : zm_Rp N G T.heap) (hL : ∀ q ∈ locs, N.b ≤ q.base) (hc : s.heap.size + cells = T.heap.size) (hs : sl0 + slots = G.2)
    {g : JFrame} (hg : g.method = m) (hsize : g.locals.size = c.maxLocals) {ig : Instr} {len : Nat} (hdg : decode c.code g.pc = .ok (ig, len)) (hw : 2 * g.monitorRoom + (g.stack.map fun v => v.category).sum + (zm_nl mj + 11) ≤ zm_w)
    {mk : MethodId} (hn : T.methodNamed? (zm_mn mj) = some mk) (hfit : (lg_sl av).length ≤ zm_nl mj) (hcm : G.1.length ≤ zm_C) (hsm : G.2 ≤ zm_S) :
    ∃ (z : zm_O) (G' : zm_H) (T' : State) (L : List Loc) (k n : Nat), Q1 z G' ∧ Stand p N.l e R s m args below meth c T' (locs ++ L) (cells + k) (slots + n) ∧ zm_Rp N G' T'.heap ∧ (∀ q ∈ locs ++ L, N.b ≤ q.base) ∧ s.heap.size + (cells + k) = T'.heap.size ∧ sl0 + (slots + n) = G'.2 ∧
      ((∃ v, z = .inl v ∧ ∀ acts, Steps p.tables e below (doInvoke e (T.setTop g) acts mk (av.map (zm_sh N.ad)).toArray).1 (T'.setTop { g with pc := g.pc + len, stack := (v.map (zm_sh N.ad)).toList ++ g.stack })) ∨
       (∃ x, z = .inr x ∧ zm_xc N x T' ∧ ∀ acts, Steps p.tables e below (doInvoke e (T.setTop g) acts mk (av.map (zm_sh N.ad)).toArray).1 ((T'.setTop g).pushFrame (.throwing (N.ad x.2))))) := by
  obtain ⟨cx1, cx2, cx3, cx4, cx5, cx6, cx7, cx8, cx9, cx10, cx11, cx12, cx13⟩ := C
  have hWT : N.s0.WarmedH T.vm := State.WarmedH.trans cx5 X.warmed
  obtain ⟨mk', methk, ck, hn', hmk, hck, hbk, hlk, hrk, hlock, hek, hsig⟩ := zm_okm_spec N hWT hok
  cases Option.some.inj (hn.symm.trans hn')
  have hpk : T.plainMethod mk := State.plainMethod.of_named (plainFor_of_name hok.1) hn hmk
  have hz := hR.1
  have hcr : cells ≤ R.cells := by omega
  have hsr : slots ≤ R.slots := by omega
  have hwd : zm_w * (d + 1) = zm_w * d + zm_w := Nat.mul_succ _ _
  generalize hav : av.map (zm_sh N.ad) = av'
  have hfit' : (lg_sl av').length ≤ zm_nl mj := by rw [← hav, zm_sl_sh]; exact hfit
  obtain ⟨Y, hin⟩ := X.into hg hsize hdg av'.toArray (R' := { frames := R.frames - 1, cells := R.cells - cells, slots := R.slots - slots, locals := R.locals - zm_w }) hmk hck hlock hpk
    (by show R.frames - 1 + 1 ≤ R.frames; omega) (by show _ + _ + (R.locals - zm_w) ≤ R.locals; rw [hlk]; omega)
    (by show cells + (R.cells - cells) ≤ R.cells; omega) (by show slots + (R.slots - slots) ≤ R.slots; omega)
  have hl := lv_entry av' (n := zm_nl mj) hfit'
  rw [← hav, zm_args_sh, hav] at hl
  have hent : entryFrame mk av'.toArray ck.maxLocals = F0 mk 0 ((lg_sl av' ++ List.replicate (zm_nl mj - (lg_sl av').length) Slot.unset).toArray) [] := by rw [hlk, lg_entry_eq]
  generalize hU : (T.setTop g).pushFrame (.java (entryFrame mk av'.toArray ck.maxLocals)) = U at Y hin
  have hUh : U.heap = T.heap := by rw [← hU]; rfl
  have hCk : zm_Cx N d mj p { frames := R.frames - 1, cells := R.cells - cells, slots := R.slots - slots, locals := R.locals - zm_w } (T.calling g mk av'.toArray) mk methk ck G.2 := by
    refine ⟨cx1, hbk, hlk, findClass_of_methodNamed hn, hWT, hlock, hrk, (name_of_methodNamed hn hmk).1, hek, ?_, ?_, ?_, ?_⟩
    · show d ≤ R.frames - 1; omega
    · show zm_w * d ≤ R.locals - zm_w
      omega
    · show N.b + zm_C ≤ T.heap.size + (R.cells - cells) + zm_no; omega
    · show zm_S ≤ G.2 + (R.slots - slots); omega
  obtain ⟨t, hst, z, G', o, L, k, n, b1, b2, b3, b4, b5, b6, b7, b8, b9, b10⟩ := hJ p e _ (T.calling g mk av'.toArray) mk av'.toArray (.java g :: below) methk ck G.2 hCk T.heap [] _ 0 0 hR hl (fun q h => by cases h) (by show T.heap.size + 0 = T.heap.size; omega) rfl U hUh Y
  have b9' : T.heap.size + k = t.heap.size := b9
  have hLL : ∀ q ∈ locs ++ L, N.b ≤ q.base := fun q hq => by
    rcases List.mem_append.mp hq with h | h
    · exact hL q h
    · exact b8 q h
  have hsteps : ∀ acts, Steps p.tables e below (doInvoke e (T.setTop g) acts mk av'.toArray).1 t := fun acts => by
    rw [hin acts, hent]
    exact zm_weaken hst
  cases z with
  | inl v =>
    cases (show o = .returned (v.map (zm_sh N.ad)) from b3)
    obtain ⟨T', X', hW', hsame', ht⟩ := X.outOf hg hdg b2 b6 b7
    have hh : t.heap = T'.heap := by rw [ht]; rfl
    refine ⟨.inl v, G', T', L, k, n, b4, X', by rw [← hh]; exact b5, hLL, by rw [← hh]; omega, by omega, Or.inl ⟨v, rfl, fun acts => by rw [← ht]; exact hsteps acts⟩⟩
  | inr x =>
    obtain ⟨ho, C0, cell, y1, y2, y3, y4⟩ := (show o = .threw (N.ad x.2) ∧ zm_xc N x t from b3)
    subst ho
    obtain ⟨T', X', hW', hsame', ht⟩ := X.outOfThrown hg b2 b6 b7
    have hh : t.heap = T'.heap := by rw [ht]; rfl
    have hv : t.vm = T'.vm := by rw [ht]; rfl
    refine ⟨.inr x, G', T', L, k, n, b4, X', by rw [← hh]; exact b5, hLL, by rw [← hh]; omega, by omega, Or.inr ⟨x, rfl, ⟨C0, cell, y1, by rw [← hh]; exact y2, y3, by rw [← hv]; exact y4⟩, fun acts => by rw [← ht]; exact hsteps acts⟩⟩
end
section
/-! THE HEAP's INSTRUCTIONS -/
def zm_fl (x : Nat) : List FieldType := zm_ft.getD x []
def zm_fty (x y : Nat) : FieldType := (zm_fl x).getD y .int
/-- a variable of this type keeps this value as it is -/
def zm_fit (ty : FieldType) (v : Value) : Bool := match ty, v with
  | .int, .int _ => true
  | .long, .long _ => true
  | .object _, .null => true
  | .object _, .ref _ => true
  | .array _, .null => true
  | .array _, .ref _ => true
  | .boolean, .int x => decide (x = 0 ∨ x = 1)
  | .char, .int x => decide (0 ≤ x ∧ x ≤ 65535)
  | _, _ => false
theorem zm_char_nar {x : Int32} (h : 0 ≤ x ∧ x ≤ 65535) : x.toUInt32.toUInt16.toUInt32.toInt32 = x := by
  have h1 : 0 ≤ x.toInt := by have := Int32.le_iff_toInt_le.mp h.1; simpa using this
  have h2 : x.toInt ≤ 65535 := by have := Int32.le_iff_toInt_le.mp h.2; simpa using this
  obtain ⟨n, hn, rfl⟩ : ∃ n : Nat, n < 65536 ∧ x = nI n := by
    refine ⟨x.toInt.toNat, by omega, ?_⟩
    apply Int32.toInt_inj.mp
    rw [nI_toInt (by omega)]
    omega
  have := (pk_charN hn).1
  simpa [narrow] using this
theorem zm_fit_of {ty : FieldType} {v : Value} (h : zm_fit ty v = true) : narrow ty v = v ∧ fits ty v = true := by
  unfold zm_fit at h
  split at h
  · exact ⟨rfl, rfl⟩
  · exact ⟨rfl, rfl⟩
  · exact ⟨rfl, rfl⟩
  · exact ⟨rfl, rfl⟩
  · exact ⟨rfl, rfl⟩
  · exact ⟨rfl, rfl⟩
  · rcases of_decide_eq_true h with rfl | rfl <;> exact ⟨rfl, rfl⟩
  · have h := of_decide_eq_true h
    refine ⟨?_, ?_⟩
    · show Value.int _ = _
      rw [zm_char_nar h]
    · simp [fits, h.1, h.2]
  · cases h
theorem zm_fit_sh (ad : Nat → Nat) {ty : FieldType} {v : Value} (h : zm_fit ty v = true) : zm_fit ty (zm_sh ad v) = true := by
  cases v <;> first | exact h | (cases ty <;> first | exact h | rfl)
theorem zm_P1 {N : zm_N} {G : zm_H} {H : Heap} (hR : zm_Rp N G H) {a x : Nat} {fs : List Value} (hx : x < zm_cl.length) (ha : G.1[a]? = some (.inr (x, fs))) : va_P N.D zm_cl [(N.ad a, .inr (x, fs.map (zm_sh N.ad)))] H := by
  intro k q hk
  match k, hk with
  | 0, hk => cases hk; exact hR.2.2.1 a _ ha hx
/-- the words of a field's reference: pool number idx of the method mi's kind, field y of the objects x -/
def zm_okf (mi idx x y : Nat) : Prop := ∃ (C : String) (T : u_T) (n : Nat), zm_cl[x]? = some (C, T, n) ∧ y < n ∧ (∀ w ∈ u_ws C T n, w ∈ zm_tb) ∧ (∀ k, k < n → parseFieldDescriptor (T k).2.2.1 = some (zm_fty x k)) ∧ (∀ a, a < n → ∀ b, b < n → a ≠ b → (T a).2.1 ≠ (T b).2.1) ∧
  ((∃ ref, Cond.fieldLink (zm_mn mi).cls idx ref (T y).2.1 (T y).2.2.1 ∈ zm_tb ∧ (ref = (T y).1 ∨ Cond.sameField ref (T y).1 (T y).2.1 (T y).2.2.1 ∈ zm_tb)) ∨
   ∃ host, Cond.fieldLinkNest (zm_mn mi).cls idx (T y).1 (T y).2.1 (T y).2.2.1 host ∈ zm_tb)
/-- a field may be written in the method mi: it isn't final, or mi makes objects of its own kind and names it without a host -/
def zm_okw (mi idx x y : Nat) : Prop := ∀ (C : String) (T : u_T) (n : Nat), zm_cl[x]? = some (C, T, n) → (T y).2.2.2 = false ∨ ((zm_mn mi).name = "<init>" ∧ (T y).1 = (zm_mn mi).cls ∧ Cond.fieldLink (zm_mn mi).cls idx (T y).1 (T y).2.1 (T y).2.2.1 ∈ zm_tb)
theorem zm_wdF (N : zm_N) {U : State} (hW : N.s0.WarmedH U.vm) {a : String} {i : Nat} {b n d h : String} (hw : Cond.fieldLinkNest a i b n d h ∈ zm_tb) (ar : Array Value) : (Cond.fieldLinkNest a i b n d h).before ar U = true := by
  obtain ⟨A, hA⟩ := N.2.1
  exact va_Nw.use rfl (va_Nw.warmF hW (va_Nw.of rfl (hA _ hw)))
theorem zm_wdM (N : zm_N) {U : State} (hW : N.s0.WarmedH U.vm) {a : String} {i : Nat} {x : MethodName} {h : String} (hw : Cond.methodLinkNest a i x h ∈ zm_tb) (ar : Array Value) : (Cond.methodLinkNest a i x h).before ar U = true := by
  obtain ⟨A, hA⟩ := N.2.1
  exact va_Nw.use rfl (va_Nw.warmM hW (va_Nw.of rfl (hA _ hw)))
theorem zm_wdC (N : zm_N) {U : State} (hW : N.s0.WarmedH U.vm) {C T : String} (hw : Cond.castable C T ∈ zm_tb) : va_Nw (.castable C T) U := by
  obtain ⟨A, hA⟩ := N.2.1
  exact va_Nw.warmC hW (va_Nw.of rfl (hA _ hw))
theorem zm_wdO (N : zm_N) {U : State} (hW : N.s0.WarmedH U.vm) {C : String} (hw : Cond.arrayOver (.object C) ∈ zm_tb) : va_AO C U := by
  obtain ⟨A, hA⟩ := N.2.1
  exact va_AO.moved hW.alike (va_AO.of (hA _ hw))
theorem zm_hts (N : zm_N) {s : State} (hW : N.s0.WarmedH s.vm) {C : String} {T : u_T} {n : Nat} (h : ∀ w ∈ u_ws C T n, w ∈ zm_tb) (args : Array Value) : ∀ w ∈ u_ws C T n, w.before args s = true := by
  intro w hw
  refine zm_wd N hW (h w hw) ?_ args
  obtain ⟨k, -, rfl⟩ := List.mem_map.mp hw
  unfold u_lay
  split <;> rfl
theorem zm_findClass_some {s : State} {C : String} {c : ClassId} (h : s.vm.findClass C = some c) : ∃ k, s.vm.classes[c]? = some k := by
  obtain ⟨hlt, -, -⟩ := Array.findIdx?_eq_some_iff_getElem.mp h
  exact ⟨_, Array.getElem?_eq_getElem hlt⟩
section ZH
variable {N : zm_N} {d mi : Nat} {p : Program} {e : Env} {R : Room} {s : State} {m : MethodId} {args : Array Value} {below : List Frame} {meth : Method} {c : Code} {sl0 : Nat} {G : zm_H} {H : Heap} {locs : List Loc} {cells slots : Nat} {Q : State → Prop}
variable {pc : Nat} {ls : Array Slot} {r : List Value}
theorem zm_getf_ok (Cx : zm_Cx N d mi p R s m meth c sl0) {idx x y a : Nat} (hok : zm_okf mi idx x y) (hR : zm_Rp N G H) {fs : List Value} (ha : G.1[a]? = some (.inr (x, fs))) {v : Value} (hy : fs[y]? = some v) (hdg : decode (zm_by mi) pc = .ok (.getfield idx, 3))
    (k : W p N.l e R s m args below meth c H locs cells slots Q (F0 m (pc + 3) ls (zm_sh N.ad v :: r))) : W p N.l e R s m args below meth c H locs cells slots Q (F0 m pc ls (.ref (N.ad a) :: r)) := by
  obtain ⟨C, T, n, h1, h2, h3, -, -, h6⟩ := hok
  have hxl : x < zm_cl.length := (List.getElem?_eq_some_iff.mp h1).1
  have hK := zm_kn N Cx.2.2.2.2.1
  have hVK : va_K N.D zm_cl [] s := ⟨hK.1, fun k q h => by simp at h⟩
  have hy' : (fs.map (zm_sh N.ad))[y]? = some (zm_sh N.ad v) := by rw [List.getElem?_map, hy]; rfl
  rcases h6 with ⟨ref, h7, h8⟩ | ⟨host, h7⟩
  · refine va_get Cx.1 Cx.2.1 (zm_hts N Cx.2.2.2.2.1 h3 args) (fun w h => h) Cx.2.2.2.1 hVK (zm_P1 hR hxl ha) 0 rfl h1 y h2 (zm_wd N Cx.2.2.2.2.1 h7 rfl args) ?_ hy' hdg k
    intro z hz
    rcases h8 with rfl | h8
    · exact hz
    · exact u_same (zm_wd N Cx.2.2.2.2.1 h8 rfl args) z hz
  · exact va_getN Cx.1 Cx.2.1 (zm_hts N Cx.2.2.2.2.1 h3 args) (fun w h => h) Cx.2.2.2.1 hVK (zm_P1 hR hxl ha) 0 rfl h1 y h2 (zm_wdF N Cx.2.2.2.2.1 h7 args) (fun z hz => hz) hy' hdg k
set_option maxHeartbeats 1000000 in
theorem zm_putf_ok (Cx : zm_Cx N d mi p R s m meth c sl0) {idx x y a : Nat} (hok : zm_okf mi idx x y) (hfin : zm_okw mi idx x y) (hR : zm_Rp N G H) (hL : ∀ q ∈ locs, N.b ≤ q.base) {fs : List Value} (ha : G.1[a]? = some (.inr (x, fs))) (hno : zm_no ≤ a) {v : Value} (hl : y < fs.length) (hv : zm_fit (zm_fty x y) v = true) (hdg : decode (zm_by mi) pc = .ok (.putfield idx, 3))
    (k : ∀ (H' : Heap) (locs' : List Loc), zm_Rp N (zm_set G a (.inr (x, fs.set y v))) H' → H'.size = H.size → (∀ q ∈ locs', N.b ≤ q.base) → W p N.l e R s m args below meth c H' locs' cells slots Q (F0 m (pc + 3) ls r)) : W p N.l e R s m args below meth c H locs cells slots Q (F0 m pc ls (zm_sh N.ad v :: .ref (N.ad a) :: r)) := by
  obtain ⟨C, T, n, h1, h2, h3, h4, h5, h6⟩ := hok
  have hxl : x < zm_cl.length := (List.getElem?_eq_some_iff.mp h1).1
  have hK := zm_kn N Cx.2.2.2.2.1
  have hVK : va_K N.D zm_cl [] s := ⟨hK.1, fun k q h => by simp at h⟩
  have hts := zm_hts N Cx.2.2.2.2.1 h3 args
  have hap := va_apart (D := N.D) (own := C) hts (fun w h => h) (zm_fty x) h4 h5 hVK h1
  have hba : N.b ≤ N.ad a := by rw [zm_ad_new N hno]; omega
  obtain ⟨r', h7, cell, q1, q2, q3, q4⟩ := hR.2.2.1 a _ ha hxl
  have hr : r' = (C, T, n) := Option.some.inj (h7.symm.trans h1)
  subst hr
  obtain ⟨hS, hfc, kC, hkC, hkind⟩ := hK.1 x _ h1
  obtain ⟨cf, kf, fi, f, hi, hsl⟩ := hS y h2
  have hst := (u_facts hfc hkC (u_lays hts (fun w h => h) h2) hi).1
  have hn := zm_fit_of (zm_fit_sh N.ad hv)
  have hlay := hts _ (u_in_lay h2)
  have hl' : y < (fs.map (zm_sh N.ad)).length := by rw [List.length_map]; exact hl
  have fin : ∀ H' : Heap, H'[N.ad a]? = some (cell.setSlot f.slot (zm_sh N.ad v)) → H'.size = H.size → (∀ q, q ≠ N.ad a → H'[q]? = H[q]?) → W p N.l e R s m args below meth c H' (locs ++ [⟨N.ad a, f.slot⟩]) cells slots Q (F0 m (pc + 3) ls r) := by
    intro H' e1 e2 e3
    refine k H' _ (hR.set hno (fun _ => ?_) e2 e3) e2 (fun q hq => ?_)
    · rw [hsl] at e1
      show va_at N.D zm_cl (N.ad a, .inr (x, (fs.set y v).map (zm_sh N.ad))) H'
      rw [List.map_set]
      exact ⟨_, h1, t_OB.to (V := updV (vp_V (fs.map (zm_sh N.ad))) y (zm_sh N.ad v)) ⟨_, e1, q2, q3, t_set q4 hap h2 _⟩ (fun j _ => vp_updV_set hl' _ j)⟩
    · rcases List.mem_append.mp hq with h | h
      · exact hL q h
      · rw [List.mem_singleton.mp h]; exact hba
  have hslot : f.slot < cell.slots.size := by rw [hsl]; exact k2_hasslot (q4 y h2)
  unfold u_lay at hlay
  by_cases hF : (T y).2.2.2 = true
  · rw [if_pos hF] at hlay
    rcases hfin C T n h1 with hfin | ⟨hini, hdecl, h8⟩
    · rw [hF] at hfin; cases hfin
    have hcf : m.cls = cf := by
      obtain ⟨_, _, c', _, _, _, -, -, hf', -, -, -, hown2, -⟩ := Cond.laysFinal_spec hlay
      have e1 : c' = cf := by have := hi.symm.trans hf'; simp at this; exact this.1.symm
      rw [hdecl] at hown2
      rw [← e1]; exact Option.some.inj (Cx.2.2.2.1.symm.trans hown2)
    have h6 := u_fits hfc hkC hkind (Or.inr hlay) hi (h4 y h2) hn.1 hn.2
    exact W.putFinK Cx.1 Cx.2.1 Cx.2.2.2.1 (zm_wd N Cx.2.2.2.2.1 h8 rfl args) hi hst hcf (Cx.2.2.2.2.2.2.2.1.trans hini) (by rw [q2]; exact h6) q1 q3 hslot rfl rfl hdg fin
  · rw [if_neg hF] at hlay
    have h6' := u_store hfc hkC hkind hlay hi (h4 y h2) hn.1 hn.2
    rcases h6 with ⟨ref, h8, h9⟩ | ⟨host, h8⟩
    · have hsame : s.fieldFound? ref (T y).2.1 (T y).2.2.1 = some (cf, kf, fi, f) := by
        rcases h9 with rfl | h9
        · exact hi
        · exact u_same (zm_wd N Cx.2.2.2.2.1 h9 rfl args) _ hi
      exact W.putK Cx.1 Cx.2.1 (f := f) ⟨Cx.2.2.2.1, zm_wd N Cx.2.2.2.2.1 h8 rfl args, ⟨_, _, _, hsame⟩, hst⟩ (by rw [q2]; exact h6') q1 q3 hslot rfl rfl hdg fin
    · exact va_WputK Cx.1 Cx.2.1 (f := f) Cx.2.2.2.1 (zm_wdF N Cx.2.2.2.2.1 h8 args) hi hst (by rw [q2]; exact h6') q1 q3 hslot rfl rfl hdg fin
/-- objects of the kind x can be made in the method mi -/
def zm_okn (mi idx x : Nat) : Prop := ∃ (C : String) (T : u_T) (n : Nat), zm_cl[x]? = some (C, T, n) ∧ (zm_fl x).length = n ∧ (∀ w ∈ u_ws C T n, w ∈ zm_tb) ∧ (∀ k, k < n → parseFieldDescriptor (T k).2.2.1 = some (zm_fty x k)) ∧ Cond.classLink (zm_mn mi).cls idx C ∈ zm_tb ∧ Cond.instantiable C n ∈ zm_tb ∧ Cond.initialized C ∈ zm_tb
theorem zm_sh_def (ad : Nat → Nat) (ty : FieldType) : zm_sh ad (defaultValue ty) = defaultValue ty := by cases ty <;> rfl
theorem zm_new_ok (Cx : zm_Cx N d mi p R s m meth c sl0) {idx x : Nat} (hok : zm_okn mi idx x) (hR : zm_Rp N G H) (hc : s.heap.size + cells = H.size) (hs : sl0 + slots = G.2) (hC : G.1.length + 1 ≤ zm_C) (hS : G.2 + (zm_fl x).length ≤ zm_S) (hdg : decode (zm_by mi) pc = .ok (.new idx, 3))
    (k : ∀ (H' : Heap), zm_Rp N (zm_new G (.inr (x, (zm_fl x).map defaultValue)) (zm_fl x).length) H' → H'.size = H.size + 1 → W p N.l e R s m args below meth c H' locs (cells + 1) (slots + (zm_fl x).length) Q (F0 m (pc + 3) ls (.ref (N.ad G.1.length) :: r))) : W p N.l e R s m args below meth c H locs cells slots Q (F0 m pc ls r) := by
  obtain ⟨C, T, n, h1, h2, h3, h4, h5, h6, h7⟩ := hok
  obtain ⟨cx1, cx2, cx3, cx4, cx5, cx6, cx7, cx8, cx9, cx10, cx11, cx12, cx13⟩ := id Cx
  have hK := zm_kn N cx5
  have hKn := hK.1 x _ h1
  have hts := zm_hts N cx5 h3 args
  have hz := hR.1
  subst h2
  refine W.newcK cx1 cx2 cx4 (zm_wd N cx5 h5 rfl args) (zm_wd N cx5 h6 rfl args) (zm_wd N cx5 h7 rfl args) rfl hdg (by omega) (by omega) hKn.2.1 hR.next.symm fun H1 kC hkC e1 z1 o1 => ?_
  have hz1 : H1.size = H.size + 1 := by rw [z1, hR.next]
  refine k H1 (hR.new (fun _ => ⟨_, h1, (u_born (zm_fty x) hts (fun w h => h) hKn hkC e1 h4).to ?_⟩) hz1 (fun q hq => o1 q (by rw [hR.next]; exact hq))) hz1
  intro j hj
  show _ = (((zm_fl x).map defaultValue).map (zm_sh N.ad)).getD j .null
  have hj' : j < (zm_fl x).length := hj
  rw [List.getD_eq_getElem?_getD, List.getElem?_map, List.getElem?_map]
  unfold zm_fty
  rw [List.getD_eq_getElem?_getD, List.getElem?_eq_getElem hj']
  exact (zm_sh_def N.ad _).symm
/-! arrays -/
theorem zm_alen_ok (Cx : zm_Cx N d mi p R s m meth c sl0) (hR : zm_Rp N G H) {a t : Nat} {x : vp_A} (ha : G.1[a]? = some (.inl (t, x))) (hdg : decode (zm_by mi) pc = .ok (.arraylength, 1))
    (k : W p N.l e R s m args below meth c H locs cells slots Q (F0 m (pc + 1) ls (.int (Int32.ofNat x.1) :: r))) : W p N.l e R s m args below meth c H locs cells slots Q (F0 m pc ls (.ref (N.ad a) :: r)) := by
  obtain ⟨-, cell, ty, h1, h2, h3, h4, h5, h6⟩ := hR.2.2.1 a _ ha
  exact W.alen (n := Int32.ofNat x.1) Cx.1 Cx.2.1 h2 (State.isArrayOf_alike Cx.2.2.2.2.1.alike h3) (by rw [h5]) rfl rfl hdg k
/-- which array an instruction reads or writes -/
def zm_aldt (i : Instr) (ty : FieldType) : Bool := match i, ty with
  | .iaload, .int => true
  | .laload, .long => true
  | .caload, .char => true
  | .baload, .boolean => true
  | .aaload, .object _ => true
  | _, _ => false
theorem zm_ald_ok (Cx : zm_Cx N d mi p R s m meth c sl0) (hR : zm_Rp N G H) {a t : Nat} {x : vp_A} (ha : G.1[a]? = some (.inl (t, x))) {i : Instr} {ty : FieldType} (ht : zm_aty[t]? = some ty) (hi : zm_aldt i ty = true) {j : Int32} (hj : 0 ≤ j ∧ j.toNatClampNeg < x.1) (hdg : decode (zm_by mi) pc = .ok (i, 1))
    (k : W p N.l e R s m args below meth c H locs cells slots Q (F0 m (pc + 1) ls (zm_sh N.ad (zm_el x j.toNatClampNeg) :: r))) : W p N.l e R s m args below meth c H locs cells slots Q (F0 m pc ls (.int j :: .ref (N.ad a) :: r)) := by
  obtain ⟨-, cell, ty', h1, h2, h3, h4, h5, h6⟩ := hR.2.2.1 a _ ha
  cases Option.some.inj (h1.symm.trans ht)
  have h3 := State.isArrayOf_alike Cx.2.2.2.2.1.alike h3
  have hin : ¬ (j < 0 ∨ cell.slots.size ≤ j.toNatClampNeg) := by
    rw [h5]
    rintro (q | q)
    · exact absurd hj.1 (Int32.not_le.mpr q)
    · exact absurd hj.2 (Nat.not_lt.mpr q)
  have h6 := h6 _ hj.2
  unfold zm_aldt at hi
  split at hi
  · exact W.iald Cx.1 Cx.2.1 h2 h3 h4 hin h6 rfl rfl hdg k
  · exact W.lald Cx.1 Cx.2.1 h2 h3 h4 hin h6 rfl rfl hdg k
  · exact W.cald Cx.1 Cx.2.1 h2 h3 h4 hin h6 rfl rfl hdg k
  · exact W.zald Cx.1 Cx.2.1 h2 h3 h4 hin h6 rfl rfl hdg k
  · exact W.aald Cx.1 Cx.2.1 h2 h3 rfl h4 hin h6 rfl rfl hdg k
  · cases hi
/-- an array's element is written -/
def zm_aset (x : vp_A) (j : Nat) (v : Value) : Option vp_A := match x.2, v with
  | .inl f, .int y => some (x.1, .inl (upd f j y))
  | .inr (.inl f), .long y => some (x.1, .inr (.inl (vp_updL f j y)))
  | .inr (.inr (.inr (.inr f))), .ref y => some (x.1, .inr (.inr (.inr (.inr (va_up f j (some y))))))
  | .inr (.inr (.inr (.inr f))), .null => some (x.1, .inr (.inr (.inr (.inr (va_up f j none)))))
  | _, _ => none
theorem zm_aset_of {x x' : vp_A} {j : Nat} {v : Value} (h : zm_aset x j v = some x') : x'.1 = x.1 ∧ zm_el x' = updV (zm_el x) j v := by
  obtain ⟨n, f⟩ := x
  unfold zm_aset at h
  split at h
  · rename_i f y hf
    simp only at hf
    subst hf
    cases Option.some.inj h
    refine ⟨rfl, funext fun q => ?_⟩
    simp only [zm_el, updV, upd]
    by_cases hq : q = j <;> simp [hq]
  · rename_i f y hf
    simp only at hf
    subst hf
    cases Option.some.inj h
    refine ⟨rfl, funext fun q => ?_⟩
    simp only [zm_el, updV, vp_updL]
    by_cases hq : q = j <;> simp [hq]
  · rename_i f y hf
    simp only at hf
    subst hf
    cases Option.some.inj h
    refine ⟨rfl, funext fun q => ?_⟩
    simp only [zm_el, updV, va_up]
    by_cases hq : q = j <;> simp [hq, va_rf]
  · rename_i f hf
    simp only at hf
    subst hf
    cases Option.some.inj h
    refine ⟨rfl, funext fun q => ?_⟩
    simp only [zm_el, updV, va_up]
    by_cases hq : q = j <;> simp [hq, va_rf]
  · cases h
/-- a thing of the kind xv may stand in an array of references to C -/
def zm_oka (xv : Nat) (C : String) : Prop := ∃ (C' : String) (T : u_T) (n : Nat), zm_cl[xv]? = some (C', T, n) ∧ (C' = C ∨ Cond.castable C' C ∈ zm_tb)
theorem zm_ast_fin {a t : Nat} {x x' : vp_A} {j : Nat} {v : Value} {ty : FieldType} (hR : zm_Rp N G H) (hL : ∀ q ∈ locs, N.b ≤ q.base) (hno : zm_no ≤ a) (ht : zm_aty[t]? = some ty) (hx : zm_aset x j v = some x') (k : ∀ (H' : Heap) (locs' : List Loc), zm_Rp N (zm_set G a (.inl (t, x'))) H' → H'.size = H.size → (∀ q ∈ locs', N.b ≤ q.base) → W p N.l e R s m args below meth c H' locs' cells slots Q (F0 m (pc + 1) ls r)) :
    ∀ H' : Heap, H'[N.ad a]? = some ((vp_cell (N.kA t) (zm_sha N.ad x)).setSlot j (zm_sh N.ad v)) → H'.size = H.size → (∀ q, q ≠ N.ad a → H'[q]? = H[q]?) → W p N.l e R s m args below meth c H' (locs ++ [⟨N.ad a, j⟩]) cells slots Q (F0 m (pc + 1) ls r) := by
  intro H' e1 e2 e3
  obtain ⟨x1, x2⟩ := zm_aset_of hx
  refine k H' _ (hR.set hno (zm_at.arr ht ?_) e2 e3) e2 (fun q hq => ?_)
  · rw [e1, zm_cell_el, zm_cell_el, arrV_store, zm_sha_1, zm_sha_1, x1]
    congr 2
    funext q
    rw [zm_sha_el, x2]
    unfold updV
    by_cases hq : q = j
    · rw [if_pos hq, if_pos hq]
    · rw [if_neg hq, if_neg hq, zm_sha_el]
  · rcases List.mem_append.mp hq with h | h
    · exact hL q h
    · rw [List.mem_singleton.mp h, zm_ad_new N hno]; exact Nat.le_add_right _ _
/-- what is written, and by which instruction into which array -/
def zm_astv (i : Instr) (ty : FieldType) (v : Value) : Option Value := match i, ty, v with
  | .iastore, .int, .int y => some (.int y)
  | .lastore, .long, .long y => some (.long y)
  | .castore, .char, .int y => some (.int y.toUInt32.toUInt16.toUInt32.toInt32)
  | .bastore, .boolean, .int y => some (.int (y &&& 1))
  | .aastore, .object _, .ref y => some (.ref y)
  | .aastore, .object _, .null => some .null
  | _, _, _ => none
set_option maxHeartbeats 1000000 in
theorem zm_ast_ok (Cx : zm_Cx N d mi p R s m meth c sl0) (hR : zm_Rp N G H) (hL : ∀ q ∈ locs, N.b ≤ q.base) {a t : Nat} {x x' : vp_A} (ha : G.1[a]? = some (.inl (t, x))) (hno : zm_no ≤ a) {i : Instr} {ty : FieldType} (ht : zm_aty[t]? = some ty) {j : Int32} (hj : 0 ≤ j ∧ j.toNatClampNeg < x.1) {v v' : Value} (hi : zm_astv i ty v = some v')
    (hv : ∀ b C, ty = .object C → v = .ref b → ∃ xv fs, G.1[b]? = some (.inr (xv, fs)) ∧ zm_oka xv C) (hx : zm_aset x j.toNatClampNeg v' = some x') (hdg : decode (zm_by mi) pc = .ok (i, 1))
    (k : ∀ (H' : Heap) (locs' : List Loc), zm_Rp N (zm_set G a (.inl (t, x'))) H' → H'.size = H.size → (∀ q ∈ locs', N.b ≤ q.base) → W p N.l e R s m args below meth c H' locs' cells slots Q (F0 m (pc + 1) ls r)) : W p N.l e R s m args below meth c H locs cells slots Q (F0 m pc ls (zm_sh N.ad v :: .int j :: .ref (N.ad a) :: r)) := by
  obtain ⟨cx1, cx2, cx3, cx4, cx5, cx6, cx7, cx8, cx9, cx10, cx11, cx12, cx13⟩ := id Cx
  have hcell := (hR.2.2.1 a _ ha).1 hno
  have hK := (zm_kn N cx5).2 t ty ht
  have harr : s.isArrayOf (vp_cell (N.kA t) (zm_sha N.ad x)) ty := by rw [zm_cell_el]; exact hK.1 _ _
  have hkn : (vp_cell (N.kA t) (zm_sha N.ad x)).vm ≠ .unknown := by rw [zm_cell_el]; exact fun z => by cases z
  have hsz : (vp_cell (N.kA t) (zm_sha N.ad x)).slots.size = x.1 := by rw [zm_cell_el, arrV_size, zm_sha_1]
  have hj0 : ¬ j < 0 := fun q => absurd hj.1 (Int32.not_le.mpr q)
  have hin : ¬ (j < 0 ∨ (vp_cell (N.kA t) (zm_sha N.ad x)).slots.size ≤ j.toNatClampNeg) := by
    rw [hsz]
    rintro (q | q)
    · exact hj0 q
    · exact absurd hj.2 (Nat.not_lt.mpr q)
  have fin := zm_ast_fin (e := e) (args := args) (below := below) (c := c) (cells := cells) (slots := slots) (Q := Q) (pc := pc) (ls := ls) (r := r) hR hL hno ht hx k
  unfold zm_astv at hi
  split at hi
  · cases Option.some.inj hi
    exact W.iast cx1 cx2 hcell harr hkn hin rfl rfl hdg fin
  · cases Option.some.inj hi
    exact W.last cx1 cx2 hcell harr hkn hin rfl rfl hdg fin
  · cases Option.some.inj hi
    exact W.cast cx1 cx2 hcell harr hkn hin rfl rfl hdg fin
  · cases Option.some.inj hi
    exact W.zast cx1 cx2 hcell harr hkn hin rfl rfl hdg fin
  · rename_i C y
    cases Option.some.inj hi
    obtain ⟨xv, fs, g1, C', T, n, g2, g3⟩ := hv y C rfl rfl
    have hxl : xv < zm_cl.length := (List.getElem?_eq_some_iff.mp g2).1
    obtain ⟨r', h7, cellV, q1, q2, q3, q4⟩ := hR.2.2.1 y _ g1 hxl
    have hr : r' = (C', T, n) := Option.some.inj (h7.symm.trans g2)
    subst hr
    have hcls := ((zm_kn N cx5).1 xv _ g2).2
    obtain ⟨kC, hkC, -⟩ := hcls.2
    obtain ⟨kA, comp, k1, k2, k3, -⟩ := hK.2
    have hasg : s.vm.assignable cellV.cls comp = true := by
      rw [q2]
      rcases g3 with rfl | g3
      · have : comp = N.D.1 xv := Option.some.inj (k3.symm.trans hcls.1)
        rw [this]
        exact va_assign hcls
      · obtain ⟨c0, t0, f1, f2, f3⟩ := Cond.castable_spec (va_Nw.use (A := args) rfl (zm_wdC N cx5 g3))
        have e1 : c0 = N.D.1 xv := Option.some.inj (f1.symm.trans hcls.1)
        have e2 : t0 = comp := Option.some.inj (f2.symm.trans k3)
        rw [← e1, ← e2]
        exact f3
    obtain ⟨kc, hkc⟩ := zm_findClass_some k3
    refine W.aast cx1 cx2 hcell (fun q h => by rw [zm_cell_el] at h; cases h) hkn (by rw [zm_cell_el]; exact k1) k2 rfl hkc ⟨hj0, by rw [hsz]; exact hj.2⟩ q1 (fun q h => by rw [q3] at h; cases h) (by rw [q2]; exact hkC) hasg rfl rfl hdg fin
  · rename_i C
    cases Option.some.inj hi
    exact va_WaastN (C := C) cx1 cx2 hcell harr hkn hin rfl rfl hdg fin
  · cases hi
/-! new arrays -/
def zm_dflt (n : Nat) (ty : FieldType) : Option vp_A := match ty with
  | .int => some (n, .inl fun _ => 0)
  | .char => some (n, .inl fun _ => 0)
  | .boolean => some (n, .inl fun _ => 0)
  | .long => some (n, .inr (.inl fun _ => 0))
  | .object _ => some (n, .inr (.inr (.inr (.inr fun _ => none))))
  | _ => none
theorem zm_dflt_of {n : Nat} {ty : FieldType} {a : vp_A} (h : zm_dflt n ty = some a) (ad : Nat → Nat) (cA : ClassId) : a.1 = n ∧ vp_cell cA (zm_sha ad a) = arrV cA n (fun _ => defaultValue ty) := by
  unfold zm_dflt at h
  split at h <;> first | (cases Option.some.inj h; exact ⟨rfl, rfl⟩) | cases h
def zm_prim (at_ : ArrayType) : FieldType := newarray.typeOf at_
theorem zm_newp_ok (Cx : zm_Cx N d mi p R s m meth c sl0) (hR : zm_Rp N G H) {at_ : ArrayType} {t : Nat} {ty : FieldType} (ht : zm_aty[t]? = some ty) (hty : newarray.typeOf at_ = ty) (hw : Cond.arrayClass ty ∈ zm_tb) {n : Int32} (hn : 0 ≤ n) {a0 : vp_A} (ha : zm_dflt n.toNatClampNeg ty = some a0) (hbytes : n.toNatClampNeg * 8 ≤ 536870912)
    (hc : s.heap.size + cells = H.size) (hs : sl0 + slots = G.2) (hC : G.1.length + 1 ≤ zm_C) (hS : G.2 + n.toNatClampNeg ≤ zm_S) (hdg : decode (zm_by mi) pc = .ok (.newarray at_, 2))
    (k : ∀ H' : Heap, zm_Rp N (zm_new G (.inl (t, a0)) n.toNatClampNeg) H' → H'.size = H.size + 1 → W p N.l e R s m args below meth c H' locs (cells + 1) (slots + n.toNatClampNeg) Q (F0 m (pc + 2) ls (.ref (N.ad G.1.length) :: r))) : W p N.l e R s m args below meth c H locs cells slots Q (F0 m pc ls (.int n :: r)) := by
  obtain ⟨cx1, cx2, cx3, cx4, cx5, cx6, cx7, cx8, cx9, cx10, cx11, cx12, cx13⟩ := id Cx
  have hz := hR.1
  subst hty
  have hb8 : componentBytes (newarray.typeOf at_) ≤ 8 := by cases at_ <;> decide
  have hbb : n.toNatClampNeg * componentBytes (newarray.typeOf at_) ≤ 536870912 := Nat.le_trans (Nat.mul_le_mul_left _ hb8) hbytes
  refine va_newaK cx1 cx2 (zm_wdA N cx5 hw args) rfl hdg rfl (fun q => absurd hn (Int32.not_le.mpr q)) rfl hbb (by omega) (by omega) hR.next.symm fun H1 cA e1 z1 o1 hAr hNm => ?_
  have hz1 : H1.size = H.size + 1 := by rw [z1, hR.next]
  have hcA : cA = N.kA t := by
    have := ((zm_kn N cx5).2 t _ ht).2
    have h2 : s.vm.findClass ("[" ++ (newarray.typeOf at_).toString) = some (N.kA t) := by cases at_ <;> exact this
    exact Option.some.inj (hNm.symm.trans h2)
  subst hcA
  refine k H1 (hR.new (zm_at.arr ht ?_) hz1 (fun q hq => o1 q (by rw [hR.next]; exact hq))) hz1
  rw [e1, (zm_dflt_of ha N.ad _).2]
theorem zm_newr_ok (Cx : zm_Cx N d mi p R s m meth c sl0) (hR : zm_Rp N G H) {idx t : Nat} {C : String} (ht : zm_aty[t]? = some (.object C)) (hw : Cond.arrayOver (.object C) ∈ zm_tb) (hcl : Cond.classLink (zm_mn mi).cls idx C ∈ zm_tb) {n : Int32} (hn : 0 ≤ n) {a0 : vp_A} (ha : zm_dflt n.toNatClampNeg (.object C) = some a0) (hbytes : n.toNatClampNeg * 8 ≤ 536870912)
    (hc : s.heap.size + cells = H.size) (hs : sl0 + slots = G.2) (hC : G.1.length + 1 ≤ zm_C) (hS : G.2 + n.toNatClampNeg ≤ zm_S) (hdg : decode (zm_by mi) pc = .ok (.anewarray idx, 3))
    (k : ∀ H' : Heap, zm_Rp N (zm_new G (.inl (t, a0)) n.toNatClampNeg) H' → H'.size = H.size + 1 → W p N.l e R s m args below meth c H' locs (cells + 1) (slots + n.toNatClampNeg) Q (F0 m (pc + 3) ls (.ref (N.ad G.1.length) :: r))) : W p N.l e R s m args below meth c H locs cells slots Q (F0 m pc ls (.int n :: r)) := by
  obtain ⟨cx1, cx2, cx3, cx4, cx5, cx6, cx7, cx8, cx9, cx10, cx11, cx12, cx13⟩ := id Cx
  have hz := hR.1
  refine W.anew cx1 cx2 cx4 (zm_wd N cx5 hcl rfl args) (va_AO.use (zm_wdO N cx5 hw)) rfl hdg rfl (fun q => absurd hn (Int32.not_le.mpr q)) (by omega) (by omega) (by omega) fun cA kA comp f1 f2 f3 f4 => ?_
  have hcA : cA = N.kA t := by
    obtain ⟨kA', comp', k1, k2, k3, k4⟩ := ((zm_kn N cx5).2 t _ ht).2
    exact Option.some.inj (f1.symm.trans k4)
  subst hcA
  rw [← hR.next]
  refine k _ (hR.new (zm_at.arr ht ?_) (Array.size_push ..) (fun q hq => by rw [Array.getElem?_push, if_neg (Nat.ne_of_lt hq)])) (Array.size_push ..)
  rw [hR.next, Array.getElem?_push_size, (zm_dflt_of ha N.ad _).2, ← arrV_new]
  rfl
/-! constants, statics, casts -/
theorem zm_gets_ok (Cx : zm_Cx N d mi p R s m meth c sl0) (hR : zm_Rp N G H) {idx : Nat} {q : Nat × String × String × String} (hq : q ∈ zm_os) (hl : Cond.fieldLink (zm_mn mi).cls idx q.2.1 q.2.2.1 q.2.2.2 ∈ zm_tb) (hdg : decode (zm_by mi) pc = .ok (.getstatic idx, 3))
    (k : W p N.l e R s m args below meth c H locs cells slots Q (F0 m (pc + 3) ls (.ref (N.ad q.1) :: r))) : W p N.l e R s m args below meth c H locs cells slots Q (F0 m pc ls r) := by
  obtain ⟨cx1, cx2, cx3, cx4, cx5, cx6, cx7, cx8, cx9, cx10, cx11, cx12, cx13⟩ := id Cx
  obtain ⟨h1, h2⟩ := N.2.2.2.2.2 q hq
  have h3 := va_Z.moved cx5.alike h2
  obtain ⟨cf, kf, fi, f, a, cell, g1, g2, g3, g4, g5, g6, g7, g8⟩ := h3
  have hlt : a < N.b := Nat.not_le.mp g8
  have had : N.ad q.1 = N.1.2.2.2.2 q.1 := if_pos h1
  rw [had] at k
  exact W.gets cx1 cx2 cx4 (zm_wd N cx5 hl rfl args) g1 g2 g3 g4 (by rw [hR.2.2.2 a hlt]; exact g5) (fun e => by rw [e] at g6; cases g6) g7 rfl hdg k
theorem zm_cast_ok (Cx : zm_Cx N d mi p R s m meth c sl0) (hR : zm_Rp N G H) {idx a x : Nat} {fs : List Value} {nm : String} (hl : Cond.classLink (zm_mn mi).cls idx nm ∈ zm_tb) (ha : G.1[a]? = some (.inr (x, fs))) {C : String} {T : u_T} {n : Nat} (hx : zm_cl[x]? = some (C, T, n)) (hc : C = nm ∨ Cond.castable C nm ∈ zm_tb) (hdg : decode (zm_by mi) pc = .ok (.checkcast idx, 3))
    (k : W p N.l e R s m args below meth c H locs cells slots Q (F0 m (pc + 3) ls (.ref (N.ad a) :: r))) : W p N.l e R s m args below meth c H locs cells slots Q (F0 m pc ls (.ref (N.ad a) :: r)) := by
  obtain ⟨cx1, cx2, cx3, cx4, cx5, cx6, cx7, cx8, cx9, cx10, cx11, cx12, cx13⟩ := id Cx
  have hxl : x < zm_cl.length := (List.getElem?_eq_some_iff.mp hx).1
  obtain ⟨r', h7, cell, q1, q2, q3, q4⟩ := hR.2.2.1 a _ ha hxl
  have hcls := ((zm_kn N cx5).1 x _ hx).2
  have hr : ∃ cell : Cell, H[N.ad a]? = some cell ∧ cell.vm.isStatics = false ∧ s.vm.findClass C = some cell.cls := ⟨cell, q1, by rw [q3]; rfl, by rw [q2]; exact hcls.1⟩
  rcases hc with rfl | hc
  · exact va_castS cx1 cx2 cx4 (zm_wd N cx5 hl rfl args) hcls hr hdg k
  · exact va_castY cx1 cx2 cx4 (zm_wd N cx5 hl rfl args) (zm_wdC N cx5 hc) hr hdg k
end ZH
end
section
/-! THE INVOKING INSTRUCTIONS -/
def zm_okl (mi idx mj : Nat) : Prop := Cond.methodLink (zm_mn mi).cls idx (zm_mn mj) ∈ zm_tb ∨ ∃ host, Cond.methodLinkNest (zm_mn mi).cls idx (zm_mn mj) host ∈ zm_tb
def zm_okc (mi idx mj n : Nat) : Prop := zm_okm mj ∧ zm_okl mi idx mj ∧ ((zm_mn mj).cls ≠ "java/lang/invoke/MethodHandle" ∧ (zm_mn mj).cls ≠ "java/lang/invoke/VarHandle") ∧ (parseMethodDescriptor (zm_mn mj).desc).map (fun q => q.parameters.length) = some n
def zm_okS (mi idx mj n : Nat) : Prop := zm_okc mi idx mj n ∧ Cond.static (zm_mn mj) ∈ zm_tb ∧ Cond.initialized (zm_mn mj).cls ∈ zm_tb
def zm_okI (mi idx mj n : Nat) : Prop := zm_okc mi idx mj n ∧ Cond.instanceMethod (zm_mn mj) ∈ zm_tb ∧ (zm_mn mj).name = "<init>" ∧ Cond.code (zm_mn mj) (zm_by mj) (zm_nl mj) none ∈ zm_tb
/-- .. on objects of the kind x -/
def zm_okV (mi idx mj n x : Nat) : Prop := zm_okc mi idx mj n ∧ Cond.instanceMethod (zm_mn mj) ∈ zm_tb ∧ ∃ (C : String) (T : u_T) (k : Nat), zm_cl[x]? = some (C, T, k) ∧ Cond.selects C (zm_mn mj) (zm_mn mj) ∈ zm_tb
theorem zm_npar {mj n : Nat} {sg : MethodDescriptor} (h : (parseMethodDescriptor (zm_mn mj).desc).map (fun q => q.parameters.length) = some n) (hs : parseMethodDescriptor (zm_mn mj).desc = some sg) : n = sg.parameters.length := by
  rw [hs] at h
  exact (Option.some.inj h).symm
/-- what is thrown at pc of the method mi leaves it -/
def zm_out (mi pc : Nat) : Prop := ∀ q ∈ tableOf (zm_hd mi), covers q pc = false
/-- a row of a handler table lets a thing of the kind X pass -/
def zm_pass (mi pc : Nat) (X : String) (y : ExceptionTableEntry) : Prop := covers y pc = false ∨ (y.catchType ≠ 0 ∧ ∃ nm, Cond.classLink (zm_mn mi).cls y.catchType nm ∈ zm_tb ∧ Cond.not (.castable X nm) ∈ zm_tb)
/-- it takes it -/
def zm_take (mi : Nat) (X : String) (y : ExceptionTableEntry) : Prop := y.catchType ≠ 0 ∧ ∃ nm, Cond.classLink (zm_mn mi).cls y.catchType nm ∈ zm_tb ∧ Cond.castable X nm ∈ zm_tb
/-- what of the kind xk is thrown at pc of the method mi is taken at h -/
def zm_cat (mi pc xk h : Nat) : Prop := ∃ (X : String) (pre : List ExceptionTableEntry) (y : ExceptionTableEntry) (rest : List ExceptionTableEntry), zm_xn[xk]? = some X ∧ tableOf (zm_hd mi) = pre ++ y :: rest ∧ (∀ z ∈ pre, zm_pass mi pc X z) ∧ covers y pc = true ∧ zm_take mi X y ∧ y.handlerPc = h
/-! the search for a handler, where its row's kind is linked as it is looked at -/
theorem zm_find_yes {Q : Handler → Pre} {E : CtlPost} {e : Env} {dd : Bool} {acts : List Action} {s : State} {f : JFrame} {a : Addr} {x : ExceptionTableEntry} {t : List ExceptionTableEntry} {c : ClassId} {cell : Cell} (hx : covers x f.pc = true) (h0 : x.catchType ≠ 0)
    (hl : s.vm.ClassLinks e.platform f.method.cls x.catchType c) (hcell : s.heap[a]? = some cell) (hobj : ∀ k, cell.vm ≠ .statics k) (hk : ∃ k, s.vm.classes[cell.cls]? = some k) (hc : ∃ k, s.vm.classes[c]? = some k) (hfit : s.vm.assignable cell.cls c = true) :
    wp (findHandler.go f a (x :: t)) Q E e dd acts s ↔ Q (.found x.handlerPc) dd acts (s.setVm (s.vm.noted f.method.cls x.catchType (.cls c))) := by
  simp only [covers] at hx
  obtain ⟨ha, ht⟩ := (resolveClass_links e.toSetting hl).op (op := VmOp.resolveClass f.method.cls x.catchType) rfl
  have hal : s.vm.Alike (s.vm.noted f.method.cls x.catchType (.cls c)) := (Vm.Alike.refl s.vm).noted _ _ _
  obtain ⟨k1, hk1⟩ := hk
  obtain ⟨k2, hk2⟩ := hc
  obtain ⟨k1', hk1', -⟩ := hal.2.2 _ _ hk1
  obtain ⟨k2', hk2', -⟩ := hal.2.2 _ _ hk2
  have hfit' : (s.vm.noted f.method.cls x.catchType (.cls c)).assignable cell.cls c = true := by rw [hal.assignable]; exact hfit
  simp [findHandler.go, hx, h0, ha, ht, hcell, hobj, hk1', hk2', hfit', VmOp.dirties, VmOp.acts]
theorem zm_find_no {Q : Handler → Pre} {E : CtlPost} {e : Env} {dd : Bool} {acts : List Action} {s : State} {f : JFrame} {a : Addr} {x : ExceptionTableEntry} {t : List ExceptionTableEntry} {c : ClassId} {cell : Cell} (hx : covers x f.pc = true) (h0 : x.catchType ≠ 0)
    (hl : s.vm.ClassLinks e.platform f.method.cls x.catchType c) (hcell : s.heap[a]? = some cell) (hobj : ∀ k, cell.vm ≠ .statics k) (hk : ∃ k, s.vm.classes[cell.cls]? = some k) (hc : ∃ k, s.vm.classes[c]? = some k) (hno : s.vm.assignable cell.cls c = false) :
    wp (findHandler.go f a (x :: t)) Q E e dd acts s ↔ wp (findHandler.go f a t) Q E e dd acts (s.setVm (s.vm.noted f.method.cls x.catchType (.cls c))) := by
  simp only [covers] at hx
  obtain ⟨ha, ht⟩ := (resolveClass_links e.toSetting hl).op (op := VmOp.resolveClass f.method.cls x.catchType) rfl
  have hal : s.vm.Alike (s.vm.noted f.method.cls x.catchType (.cls c)) := (Vm.Alike.refl s.vm).noted _ _ _
  obtain ⟨k1, hk1⟩ := hk
  obtain ⟨k2, hk2⟩ := hc
  obtain ⟨k1', hk1', -⟩ := hal.2.2 _ _ hk1
  obtain ⟨k2', hk2', -⟩ := hal.2.2 _ _ hk2
  have hno' : (s.vm.noted f.method.cls x.catchType (.cls c)).assignable cell.cls c = false := by rw [hal.assignable]; exact hno
  simp [findHandler.go, hx, h0, ha, ht, hcell, hobj, hk1', hk2', hno', VmOp.dirties, VmOp.acts]
/-- the search, through rows that let pass, up to one that takes -/
theorem zm_search {e : Env} {s₀ : State} {f : JFrame} {a : Addr} {cell : Cell} {mi : Nat} {X : String} (N : zm_N) (hpl : e.platform.magicAccessors = ({} : Platform).magicAccessors) (hW0 : N.s0.WarmedH s₀.vm) (hown : s₀.vm.findClass (zm_mn mi).cls = some f.method.cls) (hcv : cell.vm = .none) (hcc : s₀.vm.findClass X = some cell.cls)
    (y : ExceptionTableEntry) (rest : List ExceptionTableEntry) (hy : covers y f.pc = true) (htk : zm_take mi X y) :
    ∀ (pre : List ExceptionTableEntry) (S : State), s₀.WarmedH S.vm → S.heap[a]? = some cell → (∀ z ∈ pre, zm_pass mi f.pc X z) →
      ∃ vm', s₀.WarmedH vm' ∧ ∀ (Q : Handler → Pre) (E : CtlPost) (dd : Bool) (acts : List Action), wp (findHandler.go f a (pre ++ y :: rest)) Q E e dd acts S ↔ Q (.found y.handlerPc) dd acts (S.setVm vm') := by
  have hobj : ∀ k, cell.vm ≠ .statics k := fun k h => by rw [hcv] at h; cases h
  obtain ⟨k0, hk0⟩ := zm_findClass_some hcc
  intro pre
  induction pre with
  | nil =>
    intro S hW hcell _
    obtain ⟨k0', hk0', -⟩ := hW.alike.2.2 _ _ hk0
    obtain ⟨h0, nm, hlk, hc⟩ := htk
    obtain ⟨c', hc', hl⟩ := Cond.classLink_spec hown (zm_wd N hW0 hlk rfl #[]) e.platform hpl
    have hfit : s₀.vm.assignable cell.cls c' = true := by
      obtain ⟨c0, t0, f1, f2, f3⟩ := Cond.castable_spec (va_Nw.use (A := #[]) rfl (zm_wdC N hW0 hc))
      cases Option.some.inj (hcc.symm.trans f1)
      cases Option.some.inj (hc'.symm.trans f2)
      exact f3
    obtain ⟨dk, _, _, kt, hd, _, _, _, _, hkt, _, hopen⟩ := hl.here
    obtain ⟨kt', hkt', -⟩ := hW.alike.2.2 _ _ hkt
    exact ⟨_, hW.noted hd hopen (State.rightAt_cls hl), fun Q E dd acts => by
      rw [List.nil_append]
      exact zm_find_yes hy h0 (hW.classLinks hl) hcell hobj ⟨k0', hk0'⟩ ⟨kt', hkt'⟩ (by rw [hW.alike.assignable]; exact hfit)⟩
  | cons z zs ih =>
    intro S hW hcell hpass
    obtain ⟨k0', hk0', -⟩ := hW.alike.2.2 _ _ hk0
    have hrest : ∀ w ∈ zs, zm_pass mi f.pc X w := fun w hw => hpass w (List.mem_cons_of_mem _ hw)
    by_cases hcov : covers z f.pc = true
    · rcases hpass z List.mem_cons_self with h | ⟨h0, nm, hlk, hno⟩
      · rw [h] at hcov; cases hcov
      · obtain ⟨c', hc', hl⟩ := Cond.classLink_spec hown (zm_wd N hW0 hlk rfl #[]) e.platform hpl
        have hnf : s₀.vm.assignable cell.cls c' = false := by
          obtain ⟨A, hA⟩ := N.2.1
          have hv := Cond.holds_not_iff.mp (show (Cond.not (.castable X nm)).before A N.s0 = true from hA _ hno)
          have e1 : N.s0.vm.findClass X = some cell.cls := by rw [← hW0.alike.findClass]; exact hcc
          have e2 : N.s0.vm.findClass nm = some c' := by rw [← hW0.alike.findClass]; exact hc'
          simp only [Cond.value, e1, e2] at hv
          rw [hW0.alike.assignable]
          exact Option.some.inj hv
        obtain ⟨dk, _, _, kt, hd, _, _, _, _, hkt, _, hopen⟩ := hl.here
        obtain ⟨kt', hkt', -⟩ := hW.alike.2.2 _ _ hkt
        obtain ⟨vm', h1, h2⟩ := ih (S.setVm (S.vm.noted f.method.cls z.catchType (.cls c'))) (hW.noted hd hopen (State.rightAt_cls hl)) hcell hrest
        refine ⟨vm', h1, fun Q E dd acts => ?_⟩
        rw [List.cons_append, zm_find_no hcov h0 (hW.classLinks hl) hcell hobj ⟨k0', hk0'⟩ ⟨kt', hkt'⟩ (by rw [hW.alike.assignable]; exact hnf)]
        exact h2 Q E dd acts
    · have hcov : covers z f.pc = false := by cases h : covers z f.pc <;> simp_all
      obtain ⟨vm', h1, h2⟩ := ih S hW hcell hrest
      exact ⟨vm', h1, fun Q E dd acts => by rw [List.cons_append, W.findHandler_go_skip hcov]; exact h2 Q E dd acts⟩
theorem zm_sfv (u : State) (vm' : Vm) (F E : List Frame) : ((u.setFrames F).setVm vm').setFrames E = (u.setVm vm').setFrames E := by
  have h1 : (u.setFrames F).setVm vm' = (u.setVm vm').setFrames F := rfl
  rw [h1, State.setFrames_setFrames]
/-- a thrown thing is taken in the method that is walked -/
theorem zm_caught {tb : Tables} {e : Env} {s target : State} {g : JFrame} {c : Code} {below : List Frame} {a : Addr} (h : At s g.method c below) {pc : Nat} {vm' : Vm}
    (hfind : ∀ (Q : Handler → Pre) (E : CtlPost) (dd : Bool) (acts : List Action), wp (findHandler g a) Q E e dd acts ((s.setTop g).pushFrame (.throwing a)) ↔ Q (.found pc) dd acts (((s.setTop g).pushFrame (.throwing a)).setVm vm'))
    (hrest : Steps tb e below ((s.setVm vm').setTop { g with pc := pc, stack := [.ref a] }) target) : Steps tb e below ((s.setTop g).pushFrame (.throwing a)) target := by
  obtain ⟨hgo, hw⟩ := h.throwing a
  refine Steps.head hgo hw ?_
  obtain ⟨g₀, hg⟩ := Option.isSome_iff_exists.mp h.top
  obtain ⟨r, hr⟩ := State.topJava?_eq_some.mp hg
  have key : (stepThrowing e ((s.setTop g).pushFrame (.throwing a)) a (.java g :: r)).1 = (((s.setTop g).pushFrame (.throwing a)).setVm vm').setFrames (.java { g with pc := pc, stack := [.ref a] } :: r) := by
    simp only [stepThrowing, searchFrame, vmDo]
    generalize hres : Sem.go _ e false [] ((s.setTop g).pushFrame (.throwing a)) = res
    obtain ⟨as, rfl, ha⟩ := Sem.eq_ok_of hres (a := Handler.found pc) (s' := ((s.setTop g).pushFrame (.throwing a)).setVm vm') (acts' := []) (by simp [hfind _ _ _ _])
    rfl
  have hr' : (s.setVm vm').frames = .java g₀ :: r := hr
  rw [State.setTop_of_frames _ hr'] at hrest
  rw [stepThread_throwing (frames_entered h.top _), hr, List.tail_cons, key, State.pushFrame, State.setTop_of_frames _ hr, zm_sfv, zm_sfv]
  exact hrest
section ZI
variable {N : zm_N} {d mi mj pc idx : Nat} {lv : zm_L} {av rest : List Value} {G : zm_H} {Q Q1 : zm_O → zm_H → Prop}
set_option maxHeartbeats 1000000 in
/-- what is left of a call when the callee's end is known -/
theorem zm_after {p : Program} {e : Env} {R : Room} {s : State} {m : MethodId} {args : Array Value} {below : List Frame} {meth : Method} {c : Code} {sl0 : Nat} (Cx : zm_Cx N (d + 1) mi p R s m meth c sl0) {ls : Array Slot} (hl : lv_has ls (zm_nl mi) (zm_shL N.ad lv)) {ig : Instr} {st : List Value}
    (hdg : decode (zm_by mi) pc = .ok (ig, 3)) (hw : (rest.map fun v => v.category).sum + (zm_nl mj + 11) ≤ zm_w) (hfit : (lg_sl av).length ≤ zm_nl mj) (hcm : G.1.length ≤ zm_C) (hsm : G.2 ≤ zm_S) (hokm : zm_okm mj)
    (hJ : zm_J N d mj 0 (lv_args 0 av) [] G Q1) (kr : ∀ v G', Q1 (.inl v) G' → zm_J N (d + 1) mi (pc + 3) lv (v.toList ++ rest) G' Q) (kt : ∀ x G', Q1 (.inr x) G' → (zm_out mi pc ∧ Q (.inr x) G') ∨ ∃ h, zm_cat mi pc x.1 h ∧ zm_J N (d + 1) mi h lv [.ref x.2] G' Q)
    {T : State} {locs : List Loc} {cells slots : Nat} (hL : ∀ q ∈ locs, N.b ≤ q.base) (hc : s.heap.size + cells = T.heap.size) (hs : sl0 + slots = G.2) {vm₁ : Vm} (X₁ : Stand p N.l e R s m args below meth c (T.setVm vm₁) locs cells slots) (hR : zm_Rp N G T.heap)
    {mk : MethodId} (hn : s.methodNamed? (zm_mn mj) = some mk)
    (hstep : ∀ target, (∀ acts, Steps p.tables e below (doInvoke e ((T.setVm vm₁).setTop { F0 m pc ls st with stack := rest.map (zm_sh N.ad) }) acts mk (av.map (zm_sh N.ad)).toArray).1 target) → Steps p.tables e below (T.setTop (F0 m pc ls st)) target) :
    ∃ t, Steps p.tables e below (T.setTop (F0 m pc ls st)) t ∧ zm_End N s sl0 below Q t := by
  obtain ⟨cx1, cx2, cx3, cx4, cx5, cx6, cx7, cx8, cx9, cx10, cx11, cx12, cx13⟩ := id Cx
  obtain ⟨z, G', T', L, k, n, b1, X', b3, b4, b5, b6, b7⟩ := zm_callc hJ hokm Cx X₁ hR hL hc hs (g := F0 m pc ls (rest.map (zm_sh N.ad))) rfl (by rw [cx3]; exact hl.1) (by rw [cx2]; exact hdg) (by show 2 * 0 + ((rest.map (zm_sh N.ad)).map fun v => v.category).sum + _ ≤ _; rw [zm_cat_sh]; omega) (X₁.named hn) hfit hcm hsm
  rcases b7 with ⟨v, rfl, hst⟩ | ⟨x, rfl, hxc, hst⟩
  · have hJ' := kr v G' b1 p e R s m args below meth c sl0 Cx T'.heap (locs ++ L) ls (cells + k) (slots + n) b3 hl b4 b5 b6
    have hm : (v.toList ++ rest).map (zm_sh N.ad) = (v.map (zm_sh N.ad)).toList ++ rest.map (zm_sh N.ad) := by cases v <;> rfl
    rw [hm] at hJ'
    obtain ⟨t, a1, a2⟩ := hJ' T' rfl X'
    exact ⟨t, hstep _ (fun acts => (hst acts).trans a1), a2⟩
  · rcases kt x G' b1 with ⟨hout, hq⟩ | ⟨h, ⟨Xn, pre, y, rs, y1, y2, y3, y4, y5, y6⟩, hJ'⟩
    · obtain ⟨w1, w2, w3, w4, w5⟩ := X'.leaveThrown (N.ad x.2) (g := F0 m pc ls (rest.map (zm_sh N.ad))) rfl rfl rfl (by rw [cx9]; exact hout) cx6
      exact ⟨_, hstep _ (fun acts => (hst acts).trans w1), .inr x, G', .threw (N.ad x.2), locs ++ L, cells + k, slots + n, w2, w3, ⟨rfl, hxc⟩, hq, b3, w4, w5, b4, b5, b6⟩
    · obtain ⟨C0, cell, x1, x2, x3, x4⟩ := hxc
      cases Option.some.inj (y1.symm.trans x1)
      have hpl : e.platform.magicAccessors = ({} : Platform).magicAccessors := by rw [X'.admits.platform]
      have hWT : s.WarmedH T'.vm := X'.warmed
      have hcc : s.vm.findClass Xn = some cell.cls := by rw [← hWT.alike.findClass]; exact x4
      obtain ⟨vm', v1, v2⟩ := zm_search (e := e) (f := F0 m pc ls (rest.map (zm_sh N.ad))) (a := N.ad x.2) N hpl cx5 cx4 x3 hcc y rs y4 y5 pre (((T'.setTop (F0 m pc ls (rest.map (zm_sh N.ad)))).pushFrame (.throwing (N.ad x.2)))) (by rw [Stand.throwing_vm]; exact hWT) (by rw [Stand.throwing_heap]; exact x2) y3
      obtain ⟨t, a1, a2⟩ := hJ' p e R s m args below meth c sl0 Cx T'.heap (locs ++ L) ls (cells + k) (slots + n) b3 hl b4 b5 b6 (T'.setVm vm') rfl (X'.noted v1)
      refine ⟨t, hstep _ (fun acts => (hst acts).trans ?_), a2⟩
      refine zm_caught (c := c) (vm' := vm') (pc := h) X'.here ?_ a1
      intro Q E dd acts
      rw [W.findHandler_eq (meth := meth) (code := c) (by rw [Stand.throwing_vm]; exact X'.method') X'.code, cx9, y2, v2, y6]
set_option maxHeartbeats 1000000 in
theorem zm_J_S (hdg : decode (zm_by mi) pc = .ok (.invokestatic idx, 3)) (hok : zm_okS mi idx mj av.length) (hw : (rest.map fun v => v.category).sum + (zm_nl mj + 11) ≤ zm_w) (hfit : (lg_sl av).length ≤ zm_nl mj) (hcm : G.1.length ≤ zm_C) (hsm : G.2 ≤ zm_S)
    (hJ : zm_J N d mj 0 (lv_args 0 av) [] G Q1) (kr : ∀ v G', Q1 (.inl v) G' → zm_J N (d + 1) mi (pc + 3) lv (v.toList ++ rest) G' Q) (kt : ∀ x G', Q1 (.inr x) G' → (zm_out mi pc ∧ Q (.inr x) G') ∨ ∃ h, zm_cat mi pc x.1 h ∧ zm_J N (d + 1) mi h lv [.ref x.2] G' Q) : zm_J N (d + 1) mi pc lv (av.reverse ++ rest) G Q := by
  intro p e R s m args below meth c sl0 Cx H locs ls cells slots hR hl hL hc hs T hT X
  subst hT
  rw [List.map_append, List.map_reverse]
  obtain ⟨cx1, cx2, cx3, cx4, cx5, cx6, cx7, cx8, cx9, cx10, cx11, cx12, cx13⟩ := id Cx
  obtain ⟨⟨hokm, hokl, hy, hn⟩, hst, hini⟩ := hok
  obtain ⟨mk, methM, cM, hnamed, hmethM, -, -, -, -, -, -, hsigM⟩ := zm_okm_spec N cx5 hokm
  have hstatic : methM.isStatic = true := Cond.static_spec hnamed hmethM (zm_wd N cx5 hst rfl args)
  obtain ⟨kP, hkP, -⟩ := className_of_methodNamed hnamed
  have hinitP : kP.init = .initialized := Cond.initialized_spec (findClass_of_methodNamed hnamed) hkP (zm_wd N cx5 hini rfl args)
  have hlen : (av.map (zm_sh N.ad)).length = _ := (List.length_map ..).trans (zm_npar hn hsigM)
  have hx : ∃ vm₁, Stand p N.l e R s m args below meth c (T.setVm vm₁) locs cells slots ∧ ∀ target, (∀ acts, Steps p.tables e below (doInvoke e ((T.setVm vm₁).setTop { F0 m pc ls ((av.map (zm_sh N.ad)).reverse ++ rest.map (zm_sh N.ad)) with stack := rest.map (zm_sh N.ad) }) acts mk (av.map (zm_sh N.ad)).toArray).1 target) → Steps p.tables e below (T.setTop (F0 m pc ls ((av.map (zm_sh N.ad)).reverse ++ rest.map (zm_sh N.ad)))) target := by
    rcases hokl with h | ⟨host, h⟩
    · exact X.invokestatic cx1 cx4 (zm_wd N cx5 h rfl args) hnamed hmethM hstatic hkP hinitP hy (g := F0 m pc ls ((av.map (zm_sh N.ad)).reverse ++ rest.map (zm_sh N.ad))) rfl hlen rfl (by rw [cx2]; exact hdg)
    · exact X.invokestaticNest cx1 cx4 (zm_wdM N cx5 h args) hnamed hmethM hstatic hkP hinitP hy (g := F0 m pc ls ((av.map (zm_sh N.ad)).reverse ++ rest.map (zm_sh N.ad))) rfl hlen rfl (by rw [cx2]; exact hdg)
  obtain ⟨vm₁, X₁, hstep⟩ := hx
  exact zm_after Cx hl hdg hw hfit hcm hsm hokm hJ kr kt hL hc hs X₁ hR hnamed hstep
set_option maxHeartbeats 1000000 in
theorem zm_J_I {a : Nat} (hdg : decode (zm_by mi) pc = .ok (.invokespecial idx, 3)) (hok : zm_okI mi idx mj av.length) (hw : (rest.map fun v => v.category).sum + (zm_nl mj + 11) ≤ zm_w) (hfit : (lg_sl (.ref a :: av)).length ≤ zm_nl mj) (hcm : G.1.length ≤ zm_C) (hsm : G.2 ≤ zm_S)
    (hJ : zm_J N d mj 0 (lv_args 0 (.ref a :: av)) [] G Q1) (kr : ∀ v G', Q1 (.inl v) G' → zm_J N (d + 1) mi (pc + 3) lv (v.toList ++ rest) G' Q) (kt : ∀ x G', Q1 (.inr x) G' → (zm_out mi pc ∧ Q (.inr x) G') ∨ ∃ h, zm_cat mi pc x.1 h ∧ zm_J N (d + 1) mi h lv [.ref x.2] G' Q) : zm_J N (d + 1) mi pc lv (av.reverse ++ .ref a :: rest) G Q := by
  intro p e R s m args below meth c sl0 Cx H locs ls cells slots hR hl hL hc hs T hT X
  subst hT
  rw [List.map_append, List.map_reverse, List.map_cons]
  show ∃ t, Steps p.tables e below (T.setTop (F0 m pc ls ((av.map (zm_sh N.ad)).reverse ++ .ref (N.ad a) :: rest.map (zm_sh N.ad)))) t ∧ zm_End N s sl0 below Q t
  obtain ⟨cx1, cx2, cx3, cx4, cx5, cx6, cx7, cx8, cx9, cx10, cx11, cx12, cx13⟩ := id Cx
  obtain ⟨⟨hokm, hokl, hy, hn⟩, hinst, hname, hcode⟩ := hok
  have hpl : e.platform.magicAccessors = ({} : Platform).magicAccessors := by rw [X.admits.platform]
  have hlen : ∀ sig, parseMethodDescriptor (zm_mn mj).desc = some sig → (av.map (zm_sh N.ad)).length = sig.parameters.length := fun sg h => (List.length_map ..).trans (zm_npar hn h)
  have hx : ∃ mk vm₁, s.methodNamed? (zm_mn mj) = some mk ∧ s.WarmedH vm₁ ∧ ∀ target, (∀ acts, Steps p.tables e below (doInvoke e ((T.setVm vm₁).setTop { F0 m pc ls ((av.map (zm_sh N.ad)).reverse ++ .ref (N.ad a) :: rest.map (zm_sh N.ad)) with stack := rest.map (zm_sh N.ad) }) acts mk (Value.ref (N.ad a) :: av.map (zm_sh N.ad)).toArray).1 target) → Steps p.tables e below (T.setTop (F0 m pc ls ((av.map (zm_sh N.ad)).reverse ++ .ref (N.ad a) :: rest.map (zm_sh N.ad)))) target := by
    rcases hokl with h | ⟨host, h⟩
    · obtain ⟨mk, methM, cM, kP, vm₁, hnamed, hmethM, hcodeM, -, hlocalsM, -, hkP, -, hW₁, hstep₁⟩ := Steps.initColdArgs (e := e) X.here cx1 X.warmed hpl cx4 hname hy (zm_wd N cx5 h rfl args) (zm_wd N cx5 hinst rfl args) (zm_wd N cx5 hcode rfl args) (f := F0 m pc ls ((av.map (zm_sh N.ad)).reverse ++ .ref (N.ad a) :: rest.map (zm_sh N.ad))) rfl hlen rfl (by rw [cx2]; exact hdg)
      exact ⟨mk, vm₁, hnamed, hW₁, hstep₁⟩
    · obtain ⟨mk, methM, cM, kP, vm₁, hnamed, hmethM, hcodeM, -, hlocalsM, -, hkP, -, hW₁, hstep₁⟩ := Steps.initColdArgsNest (e := e) X.here cx1 X.warmed hpl cx4 hname hy (zm_wdM N cx5 h args) (zm_wd N cx5 hinst rfl args) (zm_wd N cx5 hcode rfl args) (f := F0 m pc ls ((av.map (zm_sh N.ad)).reverse ++ .ref (N.ad a) :: rest.map (zm_sh N.ad))) rfl hlen rfl (by rw [cx2]; exact hdg)
      exact ⟨mk, vm₁, hnamed, hW₁, hstep₁⟩
  obtain ⟨mk, vm₁, hnamed, hW₁, hstep⟩ := hx
  exact zm_after (av := .ref a :: av) Cx hl hdg hw hfit hcm hsm hokm hJ kr kt hL hc hs (X.noted hW₁) hR hnamed hstep
set_option maxHeartbeats 1000000 in
theorem zm_J_V {a x : Nat} {fs : List Value} (hdg : decode (zm_by mi) pc = .ok (.invokevirtual idx, 3)) (hok : zm_okV mi idx mj av.length x) (ha : G.1[a]? = some (.inr (x, fs))) (hw : (rest.map fun v => v.category).sum + (zm_nl mj + 11) ≤ zm_w) (hfit : (lg_sl (.ref a :: av)).length ≤ zm_nl mj) (hcm : G.1.length ≤ zm_C) (hsm : G.2 ≤ zm_S)
    (hJ : zm_J N d mj 0 (lv_args 0 (.ref a :: av)) [] G Q1) (kr : ∀ v G', Q1 (.inl v) G' → zm_J N (d + 1) mi (pc + 3) lv (v.toList ++ rest) G' Q) (kt : ∀ x G', Q1 (.inr x) G' → (zm_out mi pc ∧ Q (.inr x) G') ∨ ∃ h, zm_cat mi pc x.1 h ∧ zm_J N (d + 1) mi h lv [.ref x.2] G' Q) : zm_J N (d + 1) mi pc lv (av.reverse ++ .ref a :: rest) G Q := by
  intro p e R s m args below meth c sl0 Cx H locs ls cells slots hR hl hL hc hs T hT X
  subst hT
  rw [List.map_append, List.map_reverse, List.map_cons]
  show ∃ t, Steps p.tables e below (T.setTop (F0 m pc ls ((av.map (zm_sh N.ad)).reverse ++ .ref (N.ad a) :: rest.map (zm_sh N.ad)))) t ∧ zm_End N s sl0 below Q t
  obtain ⟨cx1, cx2, cx3, cx4, cx5, cx6, cx7, cx8, cx9, cx10, cx11, cx12, cx13⟩ := id Cx
  obtain ⟨⟨hokm, hokl, hy, hn⟩, hinst, C, Tb, kn, hcl, hsel⟩ := hok
  obtain ⟨mk, methM, hnamed, hmethM, hstM, habM⟩ := Cond.instanceMethod_spec (zm_wd N cx5 hinst rfl args)
  obtain ⟨mk', methM', cM, hnamed', hmethM', -, -, -, -, -, -, hsigM⟩ := zm_okm_spec N cx5 hokm
  cases Option.some.inj (hnamed.symm.trans hnamed')
  cases Option.some.inj (hmethM.symm.trans hmethM')
  obtain ⟨c2, r2, m2, q1, q2, q3, q4, kP, hkP, hkPi⟩ := Cond.selects_spec (zm_wd N cx5 hsel rfl args)
  cases Option.some.inj ((State.methodFound?_of_named hnamed hy).symm.trans q2)
  cases Option.some.inj (hnamed.symm.trans q3)
  obtain ⟨r', h7, cell, g1, g2, g3, g4⟩ := hR.2.2.1 a _ ha (List.getElem?_eq_some_iff.mp hcl).1
  have hr : r' = (C, Tb, kn) := Option.some.inj (h7.symm.trans hcl)
  subst hr
  have hfc := ((zm_kn N cx5).1 x _ hcl).2.1
  have hcc : c2 = cell.cls := by rw [g2]; exact Option.some.inj (q1.symm.trans hfc)
  subst hcc
  have hselP : selectMethod e.platform s.vm cell.cls mk = .method mk := by rw [Launch.admits_selectMethod X.admits]; exact q4
  have hlen : (av.map (zm_sh N.ad)).length = _ := (List.length_map ..).trans (zm_npar hn hsigM)
  have hx : ∃ vm₁, Stand p N.l e R s m args below meth c (T.setVm vm₁) locs cells slots ∧ ∀ target, (∀ acts, Steps p.tables e below (doInvoke e ((T.setVm vm₁).setTop { F0 m pc ls ((av.map (zm_sh N.ad)).reverse ++ .ref (N.ad a) :: rest.map (zm_sh N.ad)) with stack := rest.map (zm_sh N.ad) }) acts mk (Value.ref (N.ad a) :: av.map (zm_sh N.ad)).toArray).1 target) → Steps p.tables e below (T.setTop (F0 m pc ls ((av.map (zm_sh N.ad)).reverse ++ .ref (N.ad a) :: rest.map (zm_sh N.ad)))) target := by
    rcases hokl with h | ⟨host, h⟩
    · exact X.invokevirtual cx1 cx4 (zm_wd N cx5 h rfl args) hnamed hmethM hstM hkP hkPi hy g1 (fun z h => by rw [g3] at h; cases h) hselP hmethM habM hkP hkPi (g := F0 m pc ls ((av.map (zm_sh N.ad)).reverse ++ .ref (N.ad a) :: rest.map (zm_sh N.ad))) rfl hlen rfl (by rw [cx2]; exact hdg)
    · exact X.invokevirtualNest cx1 cx4 (zm_wdM N cx5 h args) hnamed hmethM hstM hkP hkPi hy g1 (fun z h => by rw [g3] at h; cases h) hselP hmethM habM hkP hkPi (g := F0 m pc ls ((av.map (zm_sh N.ad)).reverse ++ .ref (N.ad a) :: rest.map (zm_sh N.ad))) rfl hlen rfl (by rw [cx2]; exact hdg)
  obtain ⟨vm₁, X₁, hstep⟩ := hx
  exact zm_after (av := .ref a :: av) Cx hl hdg hw hfit hcm hsm hokm hJ kr kt hL hc hs X₁ hR hnamed hstep
end ZI
end
section
/-! ENDS: returns and throws -/
section ZE
variable {N : zm_N} {d mi pc : Nat} {lv : zm_L} {G : zm_H} {Q : zm_O → zm_H → Prop}
theorem zm_J_iret {v : Int32} {ty : FieldType} (hdg : decode (zm_by mi) pc = .ok (.ireturn, 1)) (hr : zm_rt mi = some ty) (hn : narrow ty (.int v) = .int v) (hq : Q (.inl (some (.int v))) G) : zm_J N d mi pc lv [.int v] G Q := by
  intro p e R s m args below meth c sl0 Cx H locs ls cells slots hR hl hL hc hs
  obtain ⟨cx1, cx2, cx3, cx4, cx5, cx6, cx7, cx8, cx9, cx10, cx11, cx12, cx13⟩ := id Cx
  refine zm_Wmono ?_ (W.zret (Qc := fun _ _ o t => o = .returned (some (.int v)) ∧ t.heap = H) (free := fun q => N.b ≤ q) cx1 cx2 (by rw [cx7]; exact hr) hn (fun t ht hw => ⟨rfl, ht⟩) hL hdg cx6)
  intro t ⟨o, h1, h2, ⟨h3, h4⟩, L, ⟨h5, h6, h7⟩, h8⟩
  exact ⟨.inl (some (.int v)), G, o, L, cells, slots, h1, h2, h3, hq, by rw [h4]; exact hR, h6, h7, h8, by rw [h4]; exact hc, hs⟩
theorem zm_J_vret (hdg : decode (zm_by mi) pc = .ok (.return_, 1)) (hr : zm_rt mi = none) (hq : Q (.inl none) G) : zm_J N d mi pc lv [] G Q := by
  intro p e R s m args below meth c sl0 Cx H locs ls cells slots hR hl hL hc hs
  obtain ⟨cx1, cx2, cx3, cx4, cx5, cx6, cx7, cx8, cx9, cx10, cx11, cx12, cx13⟩ := id Cx
  refine zm_Wmono ?_ (W.vret (Qc := fun _ _ o t => o = .returned none ∧ t.heap = H) (free := fun q => N.b ≤ q) cx1 cx2 (by rw [cx7]; exact hr) (fun t ht hw => ⟨rfl, ht⟩) hL hdg cx6)
  intro t ⟨o, h1, h2, ⟨h3, h4⟩, L, ⟨h5, h6, h7⟩, h8⟩
  exact ⟨.inl none, G, o, L, cells, slots, h1, h2, h3, hq, by rw [h4]; exact hR, h6, h7, h8, by rw [h4]; exact hc, hs⟩
theorem zm_J_aret {v : Value} {ty : FieldType} (hdg : decode (zm_by mi) pc = .ok (.areturn, 1)) (hr : zm_rt mi = some ty) (hty : ty.isReference = true) (hv : zm_isR v = true) (hq : Q (.inl (some v)) G) : zm_J N d mi pc lv [v] G Q := by
  intro p e R s m args below meth c sl0 Cx H locs ls cells slots hR hl hL hc hs
  obtain ⟨cx1, cx2, cx3, cx4, cx5, cx6, cx7, cx8, cx9, cx10, cx11, cx12, cx13⟩ := id Cx
  have hrt : (∃ n, ty = .object n) ∨ ∃ t, ty = .array t := by
    cases ty with
    | object n => exact Or.inl ⟨n, rfl⟩
    | array t => exact Or.inr ⟨t, rfl⟩
    | _ => cases hty
  have hv' : zm_sh N.ad v = .null ∨ ∃ a, zm_sh N.ad v = .ref a := by
    obtain ⟨r, rfl⟩ := zm_isR_of hv
    cases r with
    | none => exact Or.inl rfl
    | some x => exact Or.inr ⟨_, rfl⟩
  refine zm_Wmono ?_ (W.aret (Qc := fun _ _ o t => o = .returned (some (zm_sh N.ad v)) ∧ t.heap = H) (free := fun q => N.b ≤ q) cx1 cx2 (by rw [cx7]; exact hr) hrt hv' (fun t ht hw => ⟨rfl, ht⟩) hL hdg cx6)
  intro t ⟨o, h1, h2, ⟨h3, h4⟩, L, ⟨h5, h6, h7⟩, h8⟩
  exact ⟨.inl (some v), G, o, L, cells, slots, h1, h2, h3, hq, by rw [h4]; exact hR, h6, h7, h8, by rw [h4]; exact hc, hs⟩
end ZE
theorem zm_rebase {p : Program} {l : Launch} {e : Env} {R : Room} {s : State} {m : MethodId} {args : Array Value} {below : List Frame} {meth : Method} {c : Code} {T : State} {locs : List Loc} {cells slots : Nat} (X : Stand p l e R s m args below meth c T locs cells slots) (hc : cells ≤ R.cells) (hs : slots ≤ R.slots) :
    Stand p l e { R with cells := R.cells - cells, slots := R.slots - slots } (T.setFrames (.invoking m args :: below)) m args below meth c T [] 0 0 := by
  obtain ⟨g₀, hfr⟩ := X.frames_eq
  have hcur : T.cur < T.threads.size := State.cur_lt_of_frames hfr
  have hf : (T.setFrames (.invoking m args :: below)).frames = .invoking m args :: below := State.frames_setFrames _ hcur
  have hm : (T.setFrames (.invoking m args :: below)).vm.method? m = some meth := X.method'
  have hli : (T.setFrames (.invoking m args :: below)).localsInUse = s.localsInUse := by
    rw [State.localsInUse_invoking hf hm X.code, State.localsInUse_invoking X.frames X.method X.code]
  have hroom := X.room
  have hz := X.heapSize
  have hu := X.used
  simp only [State.hasRoom, Bool.and_eq_true, decide_eq_true_eq] at hroom
  obtain ⟨⟨⟨⟨r1, r2, r3, r4, r5, r6⟩, r7⟩, r8⟩, r9⟩ := hroom
  rw [X.frames] at r2 r3
  refine ⟨X.admits, X.cas, X.clock, hf, ?_, ?_, hm, X.code, X.here, X.tail, State.WarmedH.refl _, by rw [State.stackLimits_setFrames], by rw [State.stackBytes_setFrames], ?_⟩
  · simp only [State.hasRoom, Bool.and_eq_true, decide_eq_true_eq]
    rw [hli, hf]
    refine ⟨⟨⟨⟨r1, r2, by rw [State.stackLimits_setFrames, X.limits]; exact r3, r4, by rw [State.stackLimits_setFrames, X.limits]; exact r5, by rw [State.stackBytes_setFrames, X.bytes]; exact r6⟩, ?_⟩, ?_⟩, X.book⟩
    · show T.heap.size + (R.cells - cells) ≤ _
      omega
    · show T.slotsUsed + (R.slots - slots) ≤ _
      omega
  · have hh := X.hears
    have ha := X.warmed.alike
    have hvm : (T.setFrames (.invoking m args :: below)).vm = T.vm := rfl
    unfold State.hears at hh ⊢
    simp only [State.code?_eq, hvm, ha.method?] at hh ⊢
    exact hh
  · obtain ⟨th, hth, -⟩ := State.frames_cons hfr
    have hcur' : (T.setFrames (.invoking m args :: below)).cur < (T.setFrames (.invoking m args :: below)).threads.size := State.cur_lt_of_frames hf
    obtain ⟨th', hth', -⟩ := State.frames_cons hf
    have h := (State.sameButNew.refl (T.setFrames (.invoking m args :: below)) hth').setFrames T.frames hcur'
    rw [State.setFrames_setFrames, State.setFrames_self hth] at h
    exact h
end
section
/-! THE STEPS IN ONE FUNCTION -/
def zm_room (G : zm_H) (n : Nat) : Bool := decide (G.1.length + 1 ≤ zm_C) && decide (G.2 + n ≤ zm_S)
/-- instructions that touch the heap or the tables -/
def zm_hp (q : zm_I) (st : List Value) (G : zm_H) : Option (List Value × zm_H) := match q.1 with
  | .ldc _ => some (.int (Int32.ofInt q.2.2.2) :: st, G)
  | .ldc2_w _ => some (.long (Int64.ofInt q.2.2.2) :: st, G)
  | .getstatic _ => some (.ref q.2.1 :: st, G)
  | .getfield _ => match st with
    | .ref a :: r => match G.1[a]? with
      | some (.inr x) => if x.1 = q.2.1 then match x.2[q.2.2.1]? with
          | some v => some (v :: r, G)
          | none => none
        else none
      | _ => none
    | _ => none
  | .putfield _ => match st with
    | v :: .ref a :: r => match G.1[a]? with
      | some (.inr x) => if x.1 = q.2.1 ∧ zm_no ≤ a ∧ q.2.2.1 < x.2.length ∧ zm_fit (zm_fty x.1 q.2.2.1) v = true then some (r, zm_set G a (.inr (x.1, x.2.set q.2.2.1 v))) else none
      | _ => none
    | _ => none
  | .new _ => if zm_room G (zm_fl q.2.1).length = true then some (.ref G.1.length :: st, zm_new G (.inr (q.2.1, (zm_fl q.2.1).map defaultValue)) (zm_fl q.2.1).length) else none
  | .newarray _ => match st with
    | .int n :: r => match zm_aty[q.2.1]? with
      | some ty => match zm_dflt n.toNatClampNeg ty with
        | some a0 => if 0 ≤ n ∧ n.toNatClampNeg * 8 ≤ 536870912 ∧ zm_room G n.toNatClampNeg = true then some (.ref G.1.length :: r, zm_new G (.inl (q.2.1, a0)) n.toNatClampNeg) else none
        | none => none
      | none => none
    | _ => none
  | .anewarray _ => match st with
    | .int n :: r => match zm_aty[q.2.1]? with
      | some (.object C) => match zm_dflt n.toNatClampNeg (.object C) with
        | some a0 => if 0 ≤ n ∧ n.toNatClampNeg * 8 ≤ 536870912 ∧ zm_room G n.toNatClampNeg = true then some (.ref G.1.length :: r, zm_new G (.inl (q.2.1, a0)) n.toNatClampNeg) else none
        | none => none
      | _ => none
    | _ => none
  | .arraylength => match st with
    | .ref a :: r => match G.1[a]? with
      | some (.inl x) => some (.int (Int32.ofNat x.2.1) :: r, G)
      | _ => none
    | _ => none
  | .checkcast _ => match st with
    | .null :: r => some (.null :: r, G)
    | .ref a :: r => match G.1[a]? with
      | some (.inr x) => if x.1 = q.2.1 then some (.ref a :: r, G) else none
      | _ => none
    | _ => none
  | i => match st with
    | .int j :: .ref a :: r => match G.1[a]? with
      | some (.inl x) => match zm_aty[x.1]? with
        | some ty => if zm_aldt i ty = true ∧ 0 ≤ j ∧ j.toNatClampNeg < x.2.1 then some (zm_el x.2 j.toNatClampNeg :: r, G) else none
        | none => none
      | _ => none
    | _ => none
/-- may it be written into an array of the kind t -/
def zm_sto (t : Nat) (v : Value) (G : zm_H) : Bool := match v with
  | .ref b => match G.1[b]? with
    | some (.inr y) => zm_sub.any (fun q => q.1 == t && q.2 == y.1)
    | _ => false
  | _ => true
/-- array stores -/
def zm_hs (q : zm_I) (st : List Value) (G : zm_H) : Option (List Value × zm_H) := match st with
  | v :: .int j :: .ref a :: r => match G.1[a]? with
    | some (.inl x) => match zm_aty[x.1]? with
      | some ty => match zm_astv q.1 ty v with
        | some v' => match zm_aset x.2 j.toNatClampNeg v' with
          | some x' => if zm_no ≤ a ∧ 0 ≤ j ∧ j.toNatClampNeg < x.2.1 ∧ zm_sto x.1 v G = true then some (r, zm_set G a (.inl (x.1, x'))) else none
          | none => none
        | none => none
      | none => none
    | _ => none
  | _ => none
/-- the groups -/
def zm_grp (i : Instr) : Nat := match i with
  | .iload_n _ => 1
  | .iload _ => 1
  | .lload_n _ => 1
  | .lload _ => 1
  | .aload_n _ => 1
  | .aload _ => 1
  | .istore_n _ => 2
  | .istore _ => 2
  | .lstore_n _ => 2
  | .lstore _ => 2
  | .astore_n _ => 2
  | .astore _ => 2
  | .iinc _ _ => 3
  | .goto _ => 4
  | .ifCond _ _ => 4
  | .if_icmp _ _ => 4
  | .if_acmp _ _ => 4
  | .ifnull _ => 4
  | .ifnonnull _ => 4
  | .tableswitch _ _ _ _ => 4
  | .lookupswitch _ _ => 4
  | .ldc _ => 5
  | .ldc2_w _ => 5
  | .getstatic _ => 5
  | .getfield _ => 5
  | .putfield _ => 5
  | .new _ => 5
  | .newarray _ => 5
  | .anewarray _ => 5
  | .arraylength => 5
  | .checkcast _ => 5
  | .iaload => 5
  | .laload => 5
  | .caload => 5
  | .baload => 5
  | .aaload => 5
  | .iastore => 6
  | .lastore => 6
  | .castore => 6
  | .bastore => 6
  | .aastore => 6
  | _ => 0
abbrev zm_S4 : Type := Nat × zm_L × List Value × zm_H
def zm_stepq (mi : Nat) (q : zm_I) (s : zm_S4) : Option zm_S4 := match zm_grp q.1 with
  | 0 => match zm_pure q.1 s.2.2.1 with
    | some st => some (s.1 + zm_len q.1, s.2.1, st, s.2.2.2)
    | none => none
  | 1 => match zm_load q.1 s.2.1 with
    | some v => some (s.1 + zm_len q.1, s.2.1, v :: s.2.2.1, s.2.2.2)
    | none => none
  | 2 => match zm_stor (zm_nl mi) q.1 s.2.1 s.2.2.1 with
    | some x => some (s.1 + zm_len q.1, x.1, x.2, s.2.2.2)
    | none => none
  | 3 => match zm_inc (zm_nl mi) q.1 s.2.1 with
    | some x => some (s.1 + zm_len q.1, x, s.2.2.1, s.2.2.2)
    | none => none
  | 4 => match zm_br zm_no q.1 s.1 s.2.2.1 with
    | some x => some (x.1, s.2.1, x.2, s.2.2.2)
    | none => none
  | 5 => match zm_hp q s.2.2.1 s.2.2.2 with
    | some x => some (s.1 + zm_len q.1, s.2.1, x.1, x.2)
    | none => none
  | _ => match zm_hs q s.2.2.1 s.2.2.2 with
    | some x => some (s.1 + zm_len q.1, s.2.1, x.1, x.2)
    | none => none
def zm_step (mi : Nat) (s : zm_S4) : Option zm_S4 := match zm_cd mi s.1 with
  | some q => zm_stepq mi q s
  | none => none
def zm_run (mi : Nat) : Nat → zm_S4 → Option zm_S4
  | 0, s => some s
  | n + 1, s => match zm_step mi s with
    | some s' => zm_run mi n s'
    | none => none
/-- the length as the table has it -/
def zm_ln (q : zm_I) : Nat := match q.1 with
  | .tableswitch _ _ _ _ => q.2.1
  | .lookupswitch _ _ => q.2.1
  | i => zm_len i
/-- the words of an instruction -/
def zm_okq (mi : Nat) (q : zm_I) : Prop := match q.1 with
  | .ldc idx => Cond.constant (zm_mn mi).cls idx (Int32.ofInt q.2.2.2) ∈ zm_tb
  | .ldc2_w idx => Cond.constantLong (zm_mn mi).cls idx (Int64.ofInt q.2.2.2) ∈ zm_tb
  | .getstatic idx => ∃ o ∈ zm_os, o.1 = q.2.1 ∧ Cond.fieldLink (zm_mn mi).cls idx o.2.1 o.2.2.1 o.2.2.2 ∈ zm_tb
  | .getfield idx => zm_okf mi idx q.2.1 q.2.2.1
  | .putfield idx => zm_okf mi idx q.2.1 q.2.2.1 ∧ zm_okw mi idx q.2.1 q.2.2.1
  | .new idx => zm_okn mi idx q.2.1
  | .newarray at_ => ∃ ty, zm_aty[q.2.1]? = some ty ∧ newarray.typeOf at_ = ty ∧ Cond.arrayClass ty ∈ zm_tb
  | .anewarray idx => ∃ C, zm_aty[q.2.1]? = some (.object C) ∧ Cond.arrayOver (.object C) ∈ zm_tb ∧ Cond.classLink (zm_mn mi).cls idx C ∈ zm_tb
  | .checkcast idx => ∃ nm C T n, Cond.classLink (zm_mn mi).cls idx nm ∈ zm_tb ∧ zm_cl[q.2.1]? = some (C, T, n) ∧ (C = nm ∨ Cond.castable C nm ∈ zm_tb)
  | _ => True
def zm_oke (mi pc : Nat) (q : zm_I) : Prop := decode (zm_by mi) pc = .ok (q.1, zm_ln q) ∧ zm_okq mi q
/-- the tables' own rows: every instruction is as it stands in the code -/
def zm_okt : Prop := (∀ mi pc q, zm_cd mi pc = some q → zm_oke mi pc q) ∧ ∀ q ∈ zm_sub, ∀ C, zm_aty[q.1]? = some (.object C) → zm_oka q.2 C
section ZT
variable {N : zm_N} {d mi : Nat} {Q : zm_O → zm_H → Prop}
theorem zm_hp_ok (hT : zm_okt) {q : zm_I} {pc : Nat} {lv : zm_L} {st st' : List Value} {G G' : zm_H} (he : zm_oke mi pc q) (hg : zm_grp q.1 = 5) (h : zm_hp q st G = some (st', G')) (k : zm_J N d mi (pc + zm_len q.1) lv st' G' Q) : zm_J N d mi pc lv st G Q := by
  obtain ⟨i, qa, qb, qn⟩ := q
  obtain ⟨hdg, hok⟩ := he
  intro p e R s m args below meth c sl0 Cx H locs ls cells slots hR hl hL hc hs
  have k0 := k p e R s m args below meth c sl0 Cx
  obtain ⟨cx1, cx2, cx3, cx4, cx5, cx6, cx7, cx8, cx9, cx10, cx11, cx12, cx13⟩ := id Cx
  unfold zm_hp at h
  simp only at h
  split at h
  · rename_i idx
    cases h
    exact lv_ldc cx1 cx2 cx4 (zm_wd N cx5 hok rfl args) hdg (k0 H locs ls cells slots hR hl hL hc hs)
  · rename_i idx
    cases h
    exact lv_ldc2 cx1 cx2 cx4 (zm_wd N cx5 hok rfl args) hdg (k0 H locs ls cells slots hR hl hL hc hs)
  · rename_i idx
    cases h
    obtain ⟨o, o1, o2, o3⟩ := hok
    have o2 : o.1 = qa := o2
    subst o2
    exact zm_gets_ok Cx hR o1 o3 hdg (k0 H locs ls cells slots hR hl hL hc hs)
  · rename_i idx
    split at h
    · split at h
      · rename_i a r x hx
        split at h
        · rename_i hxq
          split at h
          · rename_i v hv
            cases h
            have hxq : x.1 = qa := hxq
            subst hxq
            exact zm_getf_ok Cx hok hR hx hv hdg (k0 H locs ls cells slots hR hl hL hc hs)
          · cases h
        · cases h
      · cases h
    · cases h
  · rename_i idx
    split at h
    · split at h
      · rename_i v a r x hx
        split at h
        · rename_i hxq
          cases h
          obtain ⟨h1, h2, h3, h4⟩ := hxq
          have h1 : x.1 = qa := h1
          subst h1
          exact zm_putf_ok Cx hok.1 hok.2 hR hL hx h2 h3 h4 hdg (fun H' locs' r1 r2 r3 => k0 H' locs' ls cells slots r1 hl r3 (by rw [r2]; exact hc) hs)
        · cases h
      · cases h
    · cases h
  · rename_i idx
    split at h
    · rename_i hr
      cases h
      simp only [zm_room, Bool.and_eq_true, decide_eq_true_eq] at hr
      exact zm_new_ok Cx hok hR hc hs hr.1 hr.2 hdg (fun H' r1 r2 => k0 H' locs ls (cells + 1) (slots + (zm_fl qa).length) r1 hl hL (by omega) (by show sl0 + (slots + (zm_fl qa).length) = G.2 + (zm_fl qa).length; omega))
    · cases h
  · rename_i at_
    obtain ⟨ty, t1, t2, t3⟩ := hok
    split at h
    · split at h
      · rename_i n r _ ty' hty
        cases Option.some.inj (hty.symm.trans t1)
        split at h
        · rename_i a0 ha
          split at h
          · rename_i hr
            cases h
            obtain ⟨h1, h2, h3⟩ := hr
            simp only [zm_room, Bool.and_eq_true, decide_eq_true_eq] at h3
            exact zm_newp_ok Cx hR t1 t2 t3 h1 ha h2 hc hs h3.1 h3.2 hdg (fun H' r1 r2 => k0 H' locs ls (cells + 1) (slots + n.toNatClampNeg) r1 hl hL (by omega) (by show sl0 + (slots + n.toNatClampNeg) = G.2 + n.toNatClampNeg; omega))
          · cases h
        · cases h
      · cases h
    · cases h
  · rename_i idx
    obtain ⟨C, t1, t2, t3⟩ := hok
    split at h
    · split at h
      · rename_i n r _ C' hty
        cases Option.some.inj (hty.symm.trans t1)
        split at h
        · rename_i a0 ha
          split at h
          · rename_i hr
            cases h
            obtain ⟨h1, h2, h3⟩ := hr
            simp only [zm_room, Bool.and_eq_true, decide_eq_true_eq] at h3
            exact zm_newr_ok Cx hR t1 t2 t3 h1 ha h2 hc hs h3.1 h3.2 hdg (fun H' r1 r2 => k0 H' locs ls (cells + 1) (slots + n.toNatClampNeg) r1 hl hL (by omega) (by show sl0 + (slots + n.toNatClampNeg) = G.2 + n.toNatClampNeg; omega))
          · cases h
        · cases h
      · cases h
    · cases h
  · split at h
    · split at h
      · rename_i a r x hx
        cases h
        exact zm_alen_ok Cx hR hx hdg (k0 H locs ls cells slots hR hl hL hc hs)
      · cases h
    · cases h
  · rename_i idx
    obtain ⟨nm, C, T, n, t1, t2, t3⟩ := hok
    split at h
    · cases h
      exact lv_castN cx1 cx2 hdg (k0 H locs ls cells slots hR hl hL hc hs)
    · split at h
      · rename_i a r x hx
        split at h
        · rename_i hxq
          cases h
          have hxq : x.1 = qa := hxq
          subst hxq
          exact zm_cast_ok Cx hR t1 hx t2 t3 hdg (k0 H locs ls cells slots hR hl hL hc hs)
        · cases h
      · cases h
    · cases h
  · split at h
    · split at h
      · rename_i j a r x hx
        split at h
        · rename_i ty hty
          split at h
          · rename_i hr
            cases h
            obtain ⟨h1, h2⟩ := hr
            have hl1 : zm_len i = 1 ∧ zm_ln (i, qa, qb, qn) = 1 := by
              unfold zm_aldt at h1
              split at h1 <;> first | exact ⟨rfl, rfl⟩ | cases h1
            have k1 := k0 H locs ls cells slots hR hl hL hc hs
            have hdg : decode (zm_by mi) pc = .ok (i, 1) := by rw [← hl1.2]; exact hdg
            have hz : pc + zm_len i = pc + 1 := by rw [hl1.1]
            rw [show pc + zm_len (i, qa, qb, qn).1 = pc + 1 from hz] at k1
            exact zm_ald_ok Cx hR hx hty h1 h2 hdg k1
          · cases h
        · cases h
      · cases h
    · cases h
theorem zm_hs_ok (hT : zm_okt) {q : zm_I} {pc : Nat} {lv : zm_L} {st st' : List Value} {G G' : zm_H} (he : zm_oke mi pc q) (h : zm_hs q st G = some (st', G')) (k : zm_J N d mi (pc + zm_len q.1) lv st' G' Q) : zm_J N d mi pc lv st G Q := by
  obtain ⟨i, qa, qb, qn⟩ := q
  obtain ⟨hdg, hok⟩ := he
  intro p e R s m args below meth c sl0 Cx H locs ls cells slots hR hl hL hc hs
  have k0 := k p e R s m args below meth c sl0 Cx
  obtain ⟨cx1, cx2, cx3, cx4, cx5, cx6, cx7, cx8, cx9, cx10, cx11, cx12, cx13⟩ := id Cx
  unfold zm_hs at h
  simp only at h
  split at h
  · split at h
    · rename_i v j a r x hx
      split at h
      · rename_i ty hty
        split at h
        · rename_i v' hv'
          split at h
          · rename_i x' hx'
            split at h
            · rename_i hr
              cases h
              obtain ⟨h1, h2, h3, h4⟩ := hr
              have hl1 : zm_len i = 1 ∧ zm_ln (i, qa, qb, qn) = 1 := by
                unfold zm_astv at hv'
                split at hv' <;> first | exact ⟨rfl, rfl⟩ | cases hv'
              have hdg : decode (zm_by mi) pc = .ok (i, 1) := by rw [← hl1.2]; exact hdg
              have hz : pc + zm_len i = pc + 1 := by rw [hl1.1]
              rw [show pc + zm_len (i, qa, qb, qn).1 = pc + 1 from hz] at k0
              refine zm_ast_ok Cx hR hL hx h1 hty ⟨h2, h3⟩ hv' ?_ hx' hdg (fun H' locs' r1 r2 r3 => k0 H' locs' ls cells slots r1 hl r3 (by rw [r2]; exact hc) hs)
              intro b C hC hb
              subst hb
              unfold zm_sto at h4
              simp only at h4
              split at h4
              · rename_i y hy
                obtain ⟨w, hw, hw2⟩ := List.any_eq_true.mp h4
                simp only [Bool.and_eq_true, beq_iff_eq] at hw2
                refine ⟨y.1, y.2, hy, ?_⟩
                have := hT.2 w hw C (by rw [hw2.1, hty, hC])
                rw [hw2.2] at this
                exact this
              · cases h4
            · cases h
          · cases h
        · cases h
      · cases h
    · cases h
  · cases h
set_option maxHeartbeats 1000000 in
theorem zm_stepq_ok (hT : zm_okt) {q : zm_I} {pc : Nat} {lv : zm_L} {st : List Value} {G : zm_H} {s' : zm_S4} (he : zm_oke mi pc q) (h : zm_stepq mi q (pc, lv, st, G) = some s') (k : zm_J N d mi s'.1 s'.2.1 s'.2.2.1 s'.2.2.2 Q) : zm_J N d mi pc lv st G Q := by
  unfold zm_stepq at h
  simp only at h
  have hln : zm_grp q.1 ≠ 4 → zm_ln q = zm_len q.1 := by
    intro hg
    unfold zm_ln
    split
    · rename_i hi; rw [hi] at hg; exact absurd rfl hg
    · rename_i hi; rw [hi] at hg; exact absurd rfl hg
    · rfl
  split at h
  · rename_i hg
    have hdg := he.1
    rw [hln (by omega)] at hdg
    split at h
    · rename_i st' hst
      cases h
      intro p e R s m args below meth c sl0 Cx H locs ls cells slots hR hl hL hc hs
      exact zm_pure_ok N.ad Cx.1 Cx.2.1 hst hdg (k p e R s m args below meth c sl0 Cx H locs ls cells slots hR hl hL hc hs)
    · cases h
  · rename_i hg
    have hdg := he.1
    rw [hln (by omega)] at hdg
    split at h
    · rename_i v hst
      cases h
      intro p e R s m args below meth c sl0 Cx H locs ls cells slots hR hl hL hc hs
      exact zm_load_ok N.ad Cx.1 Cx.2.1 hl hst hdg (k p e R s m args below meth c sl0 Cx H locs ls cells slots hR hl hL hc hs)
    · cases h
  · rename_i hg
    have hdg := he.1
    rw [hln (by omega)] at hdg
    split at h
    · rename_i x hst
      cases h
      intro p e R s m args below meth c sl0 Cx H locs ls cells slots hR hl hL hc hs
      exact zm_stor_ok N.ad Cx.1 Cx.2.1 hl hst hdg (fun ls' hl' => k p e R s m args below meth c sl0 Cx H locs ls' cells slots hR hl' hL hc hs)
    · cases h
  · rename_i hg
    have hdg := he.1
    rw [hln (by omega)] at hdg
    split at h
    · rename_i x hst
      cases h
      intro p e R s m args below meth c sl0 Cx H locs ls cells slots hR hl hL hc hs
      exact zm_inc_ok N.ad Cx.1 Cx.2.1 hl hst hdg (fun ls' hl' => k p e R s m args below meth c sl0 Cx H locs ls' cells slots hR hl' hL hc hs)
    · cases h
  · split at h
    · rename_i x hst
      cases h
      intro p e R s m args below meth c sl0 Cx H locs ls cells slots hR hl hL hc hs
      refine zm_br_ok N.ad (zm_ad_inj N) Cx.1 Cx.2.1 hst he.1 ?_ (k p e R s m args below meth c sl0 Cx H locs ls cells slots hR hl hL hc hs)
      intro ho
      unfold zm_ln
      split
      · rename_i hi; rw [hi] at ho; cases ho
      · rename_i hi; rw [hi] at ho; cases ho
      · rfl
    · cases h
  · rename_i hg
    split at h
    · rename_i x hst
      cases h
      exact zm_hp_ok hT he hg hst k
    · cases h
  · split at h
    · rename_i x hst
      cases h
      exact zm_hs_ok hT he hst k
    · cases h
theorem zm_J_run0 (hT : zm_okt) (n : Nat) {pc : Nat} {lv : zm_L} {st : List Value} {G : zm_H} {s' : zm_S4} (h : zm_run mi n (pc, lv, st, G) = some s') (k : zm_J N d mi s'.1 s'.2.1 s'.2.2.1 s'.2.2.2 Q) : zm_J N d mi pc lv st G Q := by
  induction n generalizing pc lv st G with
  | zero =>
    cases h
    exact k
  | succ n ih =>
    unfold zm_run at h
    split at h
    · rename_i s1 hs1
      unfold zm_step at hs1
      split at hs1
      · rename_i q hq
        exact zm_stepq_ok hT (hT.1 mi pc q hq) hs1 (ih h)
      · cases hs1
    · cases h
/-- n steps at once -/
theorem zm_J_run (hT : zm_okt) (n : Nat) {pc pc' : Nat} {lv lv' : zm_L} {st st' : List Value} {G G' : zm_H} (h : zm_run mi n (pc, lv, st, G) = some (pc', lv', st', G')) (k : zm_J N d mi pc' lv' st' G' Q) : zm_J N d mi pc lv st G Q := zm_J_run0 hT n h k
/-- fewer locals, in any order -/
theorem zm_J_lv {pc : Nat} {lv lv' : zm_L} {st : List Value} {G : zm_H} (h : ∀ q ∈ lv', q ∈ lv) (k : zm_J N d mi pc lv' st G Q) : zm_J N d mi pc lv st G Q := by
  intro p e R s m args below meth c sl0 Cx H locs ls cells slots hR hl hL hc hs
  refine k p e R s m args below meth c sl0 Cx H locs ls cells slots hR ⟨hl.1, hl.2.1, fun q hq => ?_⟩ hL hc hs
  obtain ⟨q', hq', rfl⟩ := List.mem_map.mp hq
  exact hl.2.2 _ (List.mem_map.mpr ⟨q', h q' hq', rfl⟩)
/-- fewer frames -/
theorem zm_J_d {d' pc : Nat} {lv : zm_L} {st : List Value} {G : zm_H} (h : d' ≤ d) (k : zm_J N d' mi pc lv st G Q) : zm_J N d mi pc lv st G Q := by
  intro p e R s m args below meth c sl0 Cx H locs ls cells slots hR hl hL hc hs
  obtain ⟨cx1, cx2, cx3, cx4, cx5, cx6, cx7, cx8, cx9, cx10, cx11, cx12, cx13⟩ := Cx
  exact k p e R s m args below meth c sl0 ⟨cx1, cx2, cx3, cx4, cx5, cx6, cx7, cx8, cx9, Nat.le_trans h cx10, Nat.le_trans (Nat.mul_le_mul_left _ h) cx11, cx12, cx13⟩ H locs ls cells slots hR hl hL hc hs
end ZT
end
section
/-! THROWS: 'throw new X(text)' under a launch without traces -/
theorem zm_wdS (N : zm_N) {U : State} (hW : N.s0.WarmedH U.vm) (hH : ∀ q : Nat, q < N.b → U.heap[q]? = N.s0.heap[q]?) {C n d : String} (hw : Cond.isRef (.static C n d) ∈ zm_tb) (a : Array Value) : (Cond.isRef (.static C n d)).before a U = true := by
  obtain ⟨A, hA⟩ := N.2.1
  have h1 : (Cond.isRef (.static C n d)).before A (N.s0.setVm U.vm) = true := Cond.before_shiftedFace (State.Shifted.of_warmed hW) _ rfl (hA _ hw)
  simp only [Cond.before, Cond.holds, Cond.value, Term.eval] at h1 ⊢
  have e1 : (N.s0.setVm U.vm).fieldNamed? C n d true = U.fieldNamed? C n d true := rfl
  rw [e1] at h1
  cases hf : U.fieldNamed? C n d true with
  | none => rw [hf] at h1; simp at h1
  | some q =>
    obtain ⟨c0, k0, slot⟩ := q
    rw [hf] at h1
    simp only [Option.bind_eq_bind, Option.bind_some] at h1 ⊢
    cases hk : k0.statics with
    | none => rw [hk] at h1; simp at h1
    | some a1 =>
      rw [hk] at h1
      simp only [Option.bind_some] at h1 ⊢
      cases hc : N.s0.heap[a1]? with
      | none =>
        have e2 : (N.s0.setVm U.vm).heap[a1]? = none := hc
        rw [e2] at h1; simp at h1
      | some cell =>
        have hlt : a1 < N.b := (Array.getElem?_eq_some_iff.mp hc).1
        have e2 : (N.s0.setVm U.vm).heap[a1]? = some cell := hc
        rw [hH a1 hlt, hc]
        rw [e2] at h1
        exact h1
theorem zm_wdL (N : zm_N) {U : State} (hW : N.s0.WarmedH U.vm) (hH : ∀ q : Nat, q < N.b → U.heap[q]? = N.s0.heap[q]?) {C n d : String} (hw : Cond.laysStatic C n d ∈ zm_tb) (a : Array Value) : (Cond.laysStatic C n d).before a U = true := by
  obtain ⟨A, hA⟩ := N.2.1
  have h1 : (Cond.laysStatic C n d).before A (N.s0.setVm U.vm) = true := Cond.before_shiftedFace (State.Shifted.of_warmed hW) _ rfl (hA _ hw)
  obtain ⟨c, k, i, f, st, cell, g1, g2, g3, g4, g5, g6, g7, g8, g9⟩ := Cond.laysStatic_spec h1
  have hlt : st < N.b := (Array.getElem?_eq_some_iff.mp (show N.s0.heap[st]? = some cell from g5)).1
  show (Cond.laysStatic C n d).holds a U none U [] = true
  exact Cond.laysStatic_of (s := U) g1 g2 g3 g4 (by rw [hH st hlt]; exact g5) g6 g7 g8 g9
theorem zm_wdT (N : zm_N) {U : State} (hW : N.s0.WarmedH U.vm) {w : Cond} (hw : w ∈ zm_tb) (h1 : w.onTables = true) (h2 : w.keepsFace = true) (a : Array Value) : w.before a U = true := by
  obtain ⟨A, hA⟩ := N.2.1
  have h3 : w.before A (N.s0.setVm U.vm) = true := Cond.before_shiftedFace (State.Shifted.of_warmed hW) _ h2 (hA _ hw)
  exact va_tabs h1 (u := N.s0.setVm U.vm) rfl h3
/-- a word that is carried along -/
def zm_gw (w : Cond) : Bool := (w.onTables && w.keepsFace) || match w with
  | .isRef (.static _ _ _) => true
  | .laysStatic _ _ _ => true
  | _ => false
/-- the words of a throw's atoms -/
theorem zm_atoms (N : zm_N) {U : State} (hW : N.s0.WarmedH U.vm) (hH : ∀ q : Nat, q < N.b → U.heap[q]? = N.s0.heap[q]?) {ws : List Cond} (h : ∀ w ∈ ws, w ∈ zm_tb ∧ zm_gw w = true) (a : Array Value) : ∀ w ∈ ws, w.before a U = true := by
  intro w hw
  obtain ⟨h1, h2⟩ := h w hw
  unfold zm_gw at h2
  rcases Bool.or_eq_true_iff.mp h2 with h2 | h2
  · rw [Bool.and_eq_true] at h2
    exact zm_wdT N hW h1 h2.1 h2.2 a
  · split at h2
    · exact zm_wdS N hW hH h1 a
    · exact zm_wdL N hW hH h1 a
    · cases h2
theorem zm_ldcS (N : zm_N) {U : State} (hW : N.s0.WarmedH U.vm) {own tx : String} {k cur : Nat} (hcur : U.vm.findClass own = some cur) (hw : Cond.stringRef own k tx ∈ zm_tb) : ∃ q, vk_R own k tx q U := by
  obtain ⟨A, hA⟩ := N.2.1
  have hcur0 : N.s0.vm.findClass own = some cur := by rw [← hW.alike.findClass]; exact hcur
  obtain ⟨k0, cf, i, a, hk, hcf, hcp, -, hr, hev⟩ := Cond.stringRef_spec hcur0 (hA _ hw)
  exact ⟨a, vk_R.warm hW (vk_R.of (hA _ hw) hev)⟩
/-- what a 'new X(text)' needs of the tables, where X comes right below RuntimeException and its own text-constructor has the code rx, which names its upper one at ix -/
def zm_ownX (X : String) (ix : Nat) (rx : ByteArray) : List Cond :=
  Bundle.throwableAtoms ++ Bundle.throwableSAtoms ++ Bundle.passSAtoms X "java/lang/RuntimeException" ix rx ++ Bundle.chainSAtoms "java/lang/RuntimeException" ["java/lang/Exception"] ++
  [.instantiable X 6, .castable X X, .selects X Bundle.tFill0 Bundle.tFill0, .selects X Bundle.tFill Bundle.tFill,
   .lays X Bundle.tN "cause" "Ljava/lang/Throwable;", .lays X Bundle.tN "stackTrace" Bundle.steD, .lays X Bundle.tN "suppressedExceptions" Bundle.listD, .lays X Bundle.tN "detailMessage" "Ljava/lang/String;",
   .isRef (.static Bundle.tN "UNASSIGNED_STACK" Bundle.steD), .isRef (.static Bundle.tN "SUPPRESSED_SENTINEL" Bundle.listD),
   .fieldLink Bundle.tN 198 Bundle.tN "backtrace" "Ljava/lang/Object;", .lays Bundle.tN Bundle.tN "backtrace" "Ljava/lang/Object;", .lays X Bundle.tN "backtrace" "Ljava/lang/Object;"]
def zm_own (own : String) (ic : Nat) (X : String) (ix : Nat) (rx : ByteArray) : List Cond := .methodLink own ic (Bundle.initS X) :: zm_ownX X ix rx
section ZV
variable {p : Program} {l : Launch} {e : Env} {R : Room} {s : State} {m₀ : MethodId} {args : Array Value} {below : List Frame} {meth : Method} {c : Code} {V : State} {locs : List Loc} {cells slots : Nat}
set_option maxHeartbeats 2000000 in
/-- from the call of X's text-constructor to the throw's end: what is thrown is that very cell, nothing else changes -/
theorem zm_ctorT (X : Stand p l e R s m₀ args below meth c V locs cells slots) (hexec : p.tables.exec = Jvm.exec) (htr : e.platform.stackTraces = false) {own cls : String} {ic ix : Nat} {rx : ByteArray}
    (x0 : decode rx 0 = .ok (.aload_n 0, 1)) (x1 : decode rx 1 = .ok (.aload_n 1, 1)) (x2 : decode rx 2 = .ok (.invokespecial ix, 3)) (x5 : decode rx 5 = .ok (.return_, 1))
    (hown : s.vm.findClass own = some m₀.cls) (hcls : Bundle.fit cls = true) (h : ∀ a ∈ zm_own own ic cls ix rx, a.before args s = true)
    (hlocs : ∀ x ∈ locs, ∀ cell, s.heap[x.base]? = some cell → cell.vm.isStatics = false)
    {a : Addr} {cX : ClassId} {kX : Class} (hfoundX : s.vm.findClass cls = some cX) (hkX : s.vm.classes[cX]? = some kX) (hcell : V.heap[a]? = some (freshCell cX kX)) (hnew : s.heap.size ≤ a)
    {msg : Value} (hmsg : msg.isRef = true)
    {g : JFrame} (hg : g.method = m₀) (hsize : g.locals.size = c.maxLocals) (hlocked : g.locked = none) (hentered : g.entered = []) {rest : List Value} (hstack : g.stack = msg :: .ref a :: .ref a :: rest)
    (hd6 : decode c.code g.pc = .ok (.invokespecial ic, 3)) (hd9 : decode c.code (g.pc + 3) = .ok (.athrow, 1)) (hout : ∀ x ∈ c.exceptionTable.toList, covers x (g.pc + 3) = false)
    (hRframes : 5 < R.frames) (hRlocals : 2 * g.monitorRoom + ((Value.ref a :: rest).map fun v => v.category).sum + 81 ≤ R.locals) (hlocks : meth.locks = false) :
    ∃ U : State, Steps p.tables e below (V.setTop g) U ∧ U.status = .running ∧ Ended U below (.threw a) ∧ s.WarmedH U.vm ∧ s.sameButNew ({ U with vm := s.vm } : State) locs cells slots ∧
      ∃ ce : Cell, U.heap[a]? = some ce ∧ ce.vm = .none ∧ s.vm.findClass cls = some ce.cls := by
  have howns : e.platform.frameOwnsMonitors = true := by rw [X.admits.platform]
  have hfin : e.platform.finalization = false := by rw [X.admits.platform]
  have hpl : e.platform.magicAccessors = ({} : Platform).magicAccessors := by rw [X.admits.platform]
  have a' : ∀ x, x ∈ zm_own own ic cls ix rx → x.holds args s none s [] = true := fun x hx => h x hx
  obtain ⟨T, Z0, L, -, Y⟩ := ThrowableC.of_atoms (args := args) howns hfin hpl (fun x hx => h x (by simp [zm_own, zm_ownX, hx]))
  obtain ⟨Z, M, LZ, LM, hnZ⟩ := Init0T.ofS_atoms (args := args) hpl L Y (fun x hx => h x (by simp [zm_own, zm_ownX, hx]))
  obtain ⟨P2, Ps, hlen, L2, hL, hP2m, hlink2, hlink⟩ := Bundle.chainS (args := args) hpl hnZ ["java/lang/Exception"] "java/lang/RuntimeException" (by decide +kernel) (fun n hn => by rw [List.mem_singleton.mp hn]; decide +kernel) (fun x hx => h x (by simp [zm_own, zm_ownX, hx]))
  obtain ⟨P1, L1, hP1m, hP1s⟩ := PassC.ofS_atoms (args := args) (s := s) hpl (X := cls) (Y := "java/lang/RuntimeException") (Bundle.fit_spec hcls).1 (by decide) x0 x1 x2 x5 (fun x hx => h x (by simp [zm_own, zm_ownX, hx]))
  have hlink1 : P1.sup = P2.m := Option.some.inj (hP1s.symm.trans hP2m)
  have hfound : s.vm.findClass cls = some P1.m.cls := findClass_of_methodNamed hP1m
  cases Option.some.inj (hfoundX.symm.trans hfound)
  obtain ⟨c1, kX', hc1, hk, hord, -, -, hn6⟩ := Cond.instantiable_spec (a' (.instantiable cls 6) (by simp [zm_own, zm_ownX]))
  cases Option.some.inj (hc1.symm.trans hfound)
  cases Option.some.inj (hkX.symm.trans hk)
  have hsel0 : selectMethod e.platform s.vm P1.m.cls T.fill0 = .method T.fill0 := by
    obtain ⟨c2, r2, m2, q1, q2, q3, q4, -⟩ := Cond.selects_spec (a' (.selects cls Bundle.tFill0 Bundle.tFill0) (by simp [zm_own, zm_ownX]))
    cases Option.some.inj (q1.symm.trans hfound)
    cases Option.some.inj (q2.symm.trans (State.methodFound?_of_named Y.fill0 (by decide)))
    cases Option.some.inj (q3.symm.trans Y.fill0)
    rw [Launch.admits_selectMethod X.admits]; exact q4
  have hselF : selectMethod e.platform s.vm P1.m.cls T.fill = .method T.fill := by
    obtain ⟨c2, r2, m2, q1, q2, q3, q4, -⟩ := Cond.selects_spec (a' (.selects cls Bundle.tFill Bundle.tFill) (by simp [zm_own, zm_ownX]))
    cases Option.some.inj (q1.symm.trans hfound)
    cases Option.some.inj (q2.symm.trans (State.methodFound?_of_named Y.fill (by decide)))
    cases Option.some.inj (q3.symm.trans Y.fill)
    rw [Launch.admits_selectMethod X.admits]; exact q4
  obtain ⟨cellS0, hcS0, hiss⟩ := Y.statics
  obtain ⟨u0, hu0⟩ := Cond.staticRefV Y.unassigned L.unassignedStatic L.statics hcS0 hiss (a' (.isRef (.static Bundle.tN "UNASSIGNED_STACK" Bundle.steD)) (by simp [zm_own, zm_ownX]))
  obtain ⟨sen, hsen⟩ := Cond.staticRefV Y.sentinel L.sentinelStatic L.statics hcS0 hiss (a' (.isRef (.static Bundle.tN "SUPPRESSED_SENTINEL" Bundle.listD)) (by simp [zm_own, zm_ownX]))
  obtain ⟨ci198, i198, fB, hk198, hg198, ha198, hsB, -, hnB, htB, hffB⟩ := Cond.ownField (t := .object "java/lang/Object") Y.found L.cls (by decide +kernel) (a' (.fieldLink Bundle.tN 198 Bundle.tN "backtrace" "Ljava/lang/Object;") (by simp [zm_own, zm_ownX])) (a' (.lays Bundle.tN Bundle.tN "backtrace" "Ljava/lang/Object;") (by simp [zm_own, zm_ownX])) e.platform hpl
  obtain ⟨cellS, hcS', heS, -, hkeep⟩ := X.same.2.2.2.2.2 T.aS cellS0 hcS0
  have hcellS : V.heap[T.aS]? = some cellS := hcS'
  have hout' : ∀ i, (⟨T.aS, i⟩ : Loc) ∉ locs := fun i hmem => by
    have := hlocs _ hmem cellS0 hcS0
    rw [hiss] at this; cases this
  have hknownS : cellS.vm ≠ .unknown := by
    rw [heS]; intro hu
    rw [show cellS0.vm = .unknown from hu] at hiss
    cases hiss
  have hneS : T.aS ≠ a := Nat.ne_of_lt (Nat.lt_of_lt_of_le (Array.getElem?_eq_some_iff.mp hcS0).1 hnew)
  obtain ⟨iM, hffM⟩ := Y.msg
  obtain ⟨tyC, dC, hdC, hdnC⟩ := Cond.laysAt hfound hk Y.cause (a' (.lays cls Bundle.tN "cause" "Ljava/lang/Throwable;") (by simp [zm_own, zm_ownX]))
  obtain ⟨tyS, dS, hdS, hdnS⟩ := Cond.laysAt hfound hk Y.stack (a' (.lays cls Bundle.tN "stackTrace" Bundle.steD) (by simp [zm_own, zm_ownX]))
  obtain ⟨tyP, dP, hdP, hdnP⟩ := Cond.laysAt hfound hk Y.supp (a' (.lays cls Bundle.tN "suppressedExceptions" Bundle.listD) (by simp [zm_own, zm_ownX]))
  obtain ⟨tyM, dM, hdM, hdnM⟩ := Cond.laysAt hfound hk hffM (a' (.lays cls Bundle.tN "detailMessage" "Ljava/lang/String;") (by simp [zm_own, zm_ownX]))
  obtain ⟨tyB, dB, hdB, hdnB⟩ := Cond.laysAt hfound hk hffB (a' (.lays cls Bundle.tN "backtrace" "Ljava/lang/Object;") (by simp [zm_own, zm_ownX]))
  have bC := Cond.laysApart hdB hdC hdnB hdnC (by rw [hnB, Y.causeName]; decide)
  have bS := Cond.laysApart hdB hdS hdnB hdnS (by rw [hnB, Y.stackName]; decide)
  have bP := Cond.laysApart hdB hdP hdnB hdnP (by rw [hnB, Y.suppName]; decide)
  have hskip : SkipFacts T e.platform s (fun u => u) u0 ((preparedCellV T.toThrowableT (freshCell P1.m.cls kX) a u0 sen).withEntry V.cur) :=
    ⟨{ ci198 := ci198, i198 := i198, fBack := fB }, ⟨hk198, hg198, ha198, hsB⟩, by
      have := fresh_default (c := P1.m.cls) tyB
      rw [htB] at this
      simpa [preparedCellV, Cell.setSlot, Cell.withEntry, Array.getElem?_setIfInBounds, bC, bS, bP, bC.symm, bS.symm, bP.symm, defaultValue] using this, fun _ _ => rfl⟩
  obtain ⟨tm, methC, cdC, kC, vm₁, hnC, -, -, -, -, -, -, -, hW₁, st1⟩ := Steps.initColdS (tb := p.tables) (e := e) (below := below) (s := s) (U := V) X.here hexec X.warmed hpl hown (t := Bundle.initS cls) rfl rfl (Bundle.fit_spec hcls).2
    (a' (.methodLink own ic (Bundle.initS cls)) (by simp [zm_own, zm_ownX])) (h (.instanceMethod (Bundle.initS cls)) (by simp [zm_own, zm_ownX, Bundle.passSAtoms])) (bytes := rx) (maxL := 2) (h (.code (Bundle.initS cls) rx 2 none) (by simp [zm_own, zm_ownX, Bundle.passSAtoms]))
    (f := g) hg (a := a) (msg := msg) (rest := .ref a :: rest) hstack hd6
  cases Option.some.inj (hnC.symm.trans hP1m)
  have X₁ := X.noted hW₁
  obtain ⟨vm₂, X₂, st2⟩ := X₁.ctorMessageOffV hexec (g := { g with stack := .ref a :: rest }) hg hsize T L Z LZ M LM (P1 :: P2 :: Ps)
    (fun P hP => by
      rcases List.mem_cons.mp hP with rfl | hP
      · exact L1
      · rcases List.mem_cons.mp hP with rfl | hP
        · exact L2
        · exact hL P hP) ⟨hlink1, hlink2, hlink⟩ (u0 := u0) (sen := sen) (self := a) hmsg (cell := freshCell P1.m.cls kX) (cellS := cellS)
    hcell (fun _ => by simp) (by simp) rfl rfl hsel0 hselF hcellS hneS hknownS (by rw [hkeep _ (hout' _)]; exact hu0) (by rw [hkeep _ (hout' _)]; exact hsen)
    (Takes.of_laid hk hord tyC (by rw [Y.causeType]; rfl)) (Takes.of_laid hk hord tyS (by rw [Y.stackType]; exact fits_refV_array _ u0)) (Takes.of_laid hk hord tyP (by rw [Y.suppType]; exact fits_refV_object _ sen))
    (Takes.of_laid hk hord tyM (by rw [Y.msgType]; exact fits_refV_object _ ⟨msg, hmsg⟩)) Y.objLocals hskip htr [] hd6
    (by simp only [List.length_cons, List.length_nil] at hlen ⊢; rw [hlen]; omega) (by simp only [List.length_cons, List.length_nil] at hlen ⊢; rw [hlen]; exact hRlocals)
  obtain ⟨hwalk, hrun, hended, hWU, hsame⟩ := X₂.athrowLeaves hexec (g := { g with stack := .ref a :: rest, pc := g.pc + 3 }) hg hlocked hentered hout (a := a) (rest := rest) rfl hd9
  have hlt : a < ((V.setVm vm₁).setVm vm₂).heap.size := (Array.getElem?_eq_some_iff.mp hcell).1
  have hU := heapAt_setCell_self (s := (V.setVm vm₁).setVm vm₂) (plainBareV T.toThrowableT (freshCell P1.m.cls kX) a u0 sen msg) hlt
  refine ⟨_, st1 _ (fun acts => ?_), hrun, hended, hWU, hsame.weaken (fun y hy hlt' => ?_) (Nat.le_refl _) (Nat.le_refl _), _, hU, rfl, hfound⟩
  · rw [doInvoke_state]
    exact st2 _ hwalk
  · rcases List.mem_append.mp hy with h1 | h1
    · exact h1
    · exfalso
      have hb : y.base = a := by
        simp only [List.mem_cons, List.not_mem_nil, or_false] at h1
        rcases h1 with rfl | rfl | rfl | rfl | rfl <;> rfl
      rw [hb] at hlt'
      exact Nat.not_lt.mpr hnew hlt'
end ZV
section ZU
variable {p : Program} {l : Launch} {e : Env} {R : Room} {s : State} {m : MethodId} {args : Array Value} {below : List Frame} {meth : Method} {c : Code} {H : Heap} {locs : List Loc} {cells slots : Nat} {Q : State → Prop}
/-- a text is loaded, by a short or a wide number -/
theorem zm_ldcS_ok {cc : ByteArray} {pc iw i q : Nat} {ls : Array Slot} {rest : List Value} (hexec : p.tables.exec = Jvm.exec) (hb : c.code = cc) {own tx : String} (hown : s.vm.findClass own = some m.cls) (hZ : vk_R own i tx q s) (hdg : (decode cc pc = .ok (.ldc i, 2) ∧ iw = 2) ∨ (decode cc pc = .ok (.ldc_w i, 3) ∧ iw = 3))
    (k : W p l e R s m args below meth c H locs cells slots Q (F0 m (pc + iw) ls (.ref q :: rest))) : W p l e R s m args below meth c H locs cells slots Q (F0 m pc ls rest) := by
  rcases hdg with ⟨hdg, rfl⟩ | ⟨hdg, rfl⟩
  · exact va_ldcS hexec hb hown hZ hdg k
  · intro T hT X
    obtain ⟨t, a1, b1⟩ := k T hT X
    exact ⟨t, X.ldcStringW hexec hown (text := tx) (a := q) hZ.1 hZ.2 (g := F0 m pc ls rest) rfl (by rw [hb]; exact hdg) t a1, b1⟩
end ZU
section ZW
variable {N : zm_N} {d mi pc : Nat} {lv : zm_L} {st : List Value} {G : zm_H} {Q : zm_O → zm_H → Prop}
/-- the place at pc of the method mi throws a thing of the kind xk -/
def zm_okx (mi pc xk : Nat) : Prop := ∃ (i0 i1 ic ix : Nat) (X tx : String) (rx : ByteArray) (iw : Nat), decode rx 0 = .ok (.aload_n 0, 1) ∧ decode rx 1 = .ok (.aload_n 1, 1) ∧ decode rx 2 = .ok (.invokespecial ix, 3) ∧ decode rx 5 = .ok (.return_, 1) ∧ decode (zm_by mi) pc = .ok (.new i0, 3) ∧ decode (zm_by mi) (pc + 3) = .ok (.dup, 1) ∧
  ((decode (zm_by mi) (pc + 4) = .ok (.ldc i1, 2) ∧ iw = 2) ∨ (decode (zm_by mi) (pc + 4) = .ok (.ldc_w i1, 3) ∧ iw = 3)) ∧ decode (zm_by mi) (pc + 4 + iw) = .ok (.invokespecial ic, 3) ∧ decode (zm_by mi) (pc + 4 + iw + 3) = .ok (.athrow, 1) ∧
  zm_xn[xk]? = some X ∧ Cond.classLink (zm_mn mi).cls i0 X ∈ zm_tb ∧ Cond.instantiable X 6 ∈ zm_tb ∧ Cond.initialized X ∈ zm_tb ∧ Cond.stringRef (zm_mn mi).cls i1 tx ∈ zm_tb ∧ Bundle.fit X = true ∧ zm_out mi (pc + 4 + iw + 3) ∧ Cond.methodLink (zm_mn mi).cls ic (Bundle.initS X) ∈ zm_tb ∧ ∀ w ∈ zm_ownX X ix rx, w ∈ zm_tb ∧ zm_gw w = true
set_option maxHeartbeats 1000000 in
theorem zm_J_throw {xk : Nat} (hok : zm_okx mi pc xk) (hd : 7 ≤ d) (hw : (st.map fun v => v.category).sum + 95 ≤ zm_w * 7) (hr : zm_room G 6 = true) (hq : Q (.inr (xk, G.1.length)) (zm_new G (.inr (zm_cl.length, [])) 6)) : zm_J N d mi pc lv st G Q := by
  obtain ⟨i0, i1, ic, ix, X, tx, rx, iw, x0, x1, x2, x5, d0, d1, d2, d3, d4, hxn, w1, w2, w3, w4, f1, hout, wm, hat0⟩ := hok
  have hat : ∀ w ∈ zm_own (zm_mn mi).cls ic X ix rx, w ∈ zm_tb ∧ zm_gw w = true := List.forall_mem_cons.mpr ⟨⟨wm, rfl⟩, hat0⟩
  intro p e R s m args below meth c sl0 Cx H locs ls cells slots hR hl hL hc hs T hT XX
  subst hT
  obtain ⟨cx1, cx2, cx3, cx4, cx5, cx6, cx7, cx8, cx9, cx10, cx11, cx12, cx13⟩ := id Cx
  simp only [zm_room, Bool.and_eq_true, decide_eq_true_eq] at hr
  have hz := hR.1
  have hWT : N.s0.WarmedH T.vm := State.WarmedH.trans cx5 XX.warmed
  have Y := zm_rebase XX (by omega) (by omega)
  generalize hs' : T.setFrames (.invoking m args :: below) = s' at Y
  have hvm : s'.vm = T.vm := by rw [← hs']; rfl
  have hhp : s'.heap = T.heap := by rw [← hs']; rfl
  have hWs : N.s0.WarmedH s'.vm := by rw [hvm]; exact hWT
  have hHs : ∀ q : Nat, q < N.b → s'.heap[q]? = N.s0.heap[q]? := by rw [hhp]; exact hR.2.2.2
  have hown : s'.vm.findClass (zm_mn mi).cls = some m.cls := by rw [hvm, XX.warmed.alike.findClass]; exact cx4
  obtain ⟨cX, hcX, -⟩ : ∃ cX, s'.vm.findClass X = some cX ∧ True := by
    obtain ⟨c1, k1, h1, -⟩ := Cond.instantiable_spec (zm_wd N hWs w2 rfl args)
    exact ⟨c1, h1, trivial⟩
  obtain ⟨qs, hqs⟩ := zm_ldcS N hWs hown w4
  have hmul : zm_w * 7 ≤ zm_w * d := Nat.mul_le_mul_left _ hd
  have key : W p N.l e { R with cells := R.cells - cells, slots := R.slots - slots } s' m args below meth c T.heap [] 0 0 (zm_End N s sl0 below Q) (F0 m pc ls (st.map (zm_sh N.ad))) := by
    refine W.newcK cx1 cx2 hown (zm_wd N hWs w1 rfl args) (zm_wd N hWs w2 rfl args) (zm_wd N hWs w3 rfl args) rfl d0 (by show 0 + 1 ≤ R.cells - cells; omega) (by show 0 + 6 ≤ R.slots - slots; omega) hcX rfl fun H1 kX hkX e1 z1 o1 => ?_
    refine lv_dup cx1 cx2 d1 rfl ?_
    refine zm_ldcS_ok cx1 cx2 hown hqs d2 ?_
    intro T3 hT3 X3
    obtain ⟨U, hsteps, hrun, hend, hWU, hsame, ce, hce, hcv, hcn⟩ := zm_ctorT X3 cx1 (by rw [X3.admits.platform]; exact N.2.2.2.1) x0 x1 x2 x5 hown f1 (zm_atoms N hWs hHs hat args) (fun x hx => by cases hx) hcX hkX (by rw [hT3]; exact e1) (by rw [hhp]; exact Nat.le_refl _) (msg := .ref qs) rfl
      (g := F0 m (pc + 4 + iw) ls (.ref qs :: .ref T.heap.size :: .ref T.heap.size :: st.map (zm_sh N.ad))) rfl (by rw [cx3]; exact hl.1) rfl rfl rfl (by rw [cx2]; exact d3) (by rw [cx2]; exact d4) (by rw [cx9]; exact hout) (by show 5 < R.frames; omega)
      (by show 2 * 0 + ((Value.ref T.heap.size :: st.map (zm_sh N.ad)).map fun v => v.category).sum + _ ≤ R.locals; rw [List.map_cons, List.sum_cons, zm_cat_sh]; show 2 * 0 + (1 + _) + _ ≤ _; omega) cx6
    have hsz : U.heap.size = T.heap.size + 1 := by
      have h1 : U.heap.size ≤ s'.heap.size + (0 + 1) := hsame.2.2.1
      have h2 : T.heap.size < U.heap.size := (Array.getElem?_eq_some_iff.mp hce).1
      rw [hhp] at h1
      omega
    have hold : ∀ q : Nat, q < T.heap.size → U.heap[q]? = T.heap[q]? := by
      intro q hq
      have h1 : s'.heap[q]? = some (T.heap[q]) := by rw [hhp]; exact Array.getElem?_eq_getElem hq
      have h2 : ({ U with vm := s'.vm } : State).heap[q]? = some (T.heap[q]) := State.sameButNew.old_cell hsame h1
      rw [Array.getElem?_eq_getElem hq]
      exact h2
    have hnx : N.ad G.1.length = T.heap.size := hR.next
    have hsame2 : s.sameButNew ({ U with vm := s.vm } : State) (locs ++ []) (cells + (0 + 1)) (slots + (0 + 6)) := by
      refine XX.same.trans ?_
      obtain ⟨a1, a2, a3, a4, a5, a6⟩ := hsame
      refine ⟨?_, ?_, ?_, ?_, ?_, ?_⟩
      · have h1 := congrArg (fun z : State => z.setVm s.vm) a1
        rw [← hs', State.setFrames_setFrames] at h1
        exact h1
      · rw [hhp] at a2; exact a2
      · rw [hhp] at a3; exact a3
      · rw [← hs'] at a4; exact a4
      · rw [hhp] at a5; exact a5
      · rw [hhp] at a6; exact a6
    refine ⟨U, hsteps, .inr (xk, G.1.length), _, .threw T.heap.size, locs ++ [], cells + (0 + 1), slots + (0 + 6), hrun, hend, ⟨by rw [hnx], X, ce, hxn, by rw [hnx]; exact hce, hcv, ?_⟩, hq, ?_, State.WarmedH.trans XX.warmed (by rw [← hs'] at hWU; exact hWU), hsame2, ?_, ?_, ?_⟩
    · rw [hWU.alike.findClass]; exact hcn
    · exact hR.new (fun z => absurd z (Nat.lt_irrefl _)) hsz hold
    · intro q hq
      rw [List.append_nil] at hq
      exact hL q hq
    · omega
    · show sl0 + (slots + (0 + 6)) = G.2 + 6
      omega
  exact key T rfl Y
end ZW
/-! Object's own constructor -/
def zm_okO (mi idx : Nat) : Prop := Cond.methodLink (zm_mn mi).cls idx Lib.objectInit ∈ zm_tb ∧ Cond.instanceMethod Lib.objectInit ∈ zm_tb ∧ Cond.code Lib.objectInit ⟨#[0xb1]⟩ 1 none ∈ zm_tb
theorem zm_J_O {N : zm_N} {d mi pc idx a : Nat} {lv : zm_L} {rest : List Value} {G : zm_H} {Q : zm_O → zm_H → Prop} (hdg : decode (zm_by mi) pc = .ok (.invokespecial idx, 3)) (hok : zm_okO mi idx) (hw : (rest.map fun v => v.category).sum + 12 ≤ zm_w) (k : zm_J N (d + 1) mi (pc + 3) lv rest G Q) : zm_J N (d + 1) mi pc lv (.ref a :: rest) G Q := by
  intro p e R s m args below meth c sl0 Cx H locs ls cells slots hR hl hL hc hs
  obtain ⟨cx1, cx2, cx3, cx4, cx5, cx6, cx7, cx8, cx9, cx10, cx11, cx12, cx13⟩ := id Cx
  have hwd : zm_w * (d + 1) = zm_w * d + zm_w := Nat.mul_succ _ _
  exact W.objInit cx1 cx2 cx4 (zm_wd N cx5 hok.1 rfl args) (zm_wd N cx5 hok.2.1 rfl args) (zm_wd N cx5 hok.2.2 rfl args) (g := F0 m pc ls (.ref (N.ad a) :: rest.map (zm_sh N.ad))) rfl (by rw [cx3]; exact hl.1) rfl hdg (by omega) (by show 2 * 0 + ((rest.map (zm_sh N.ad)).map fun v => v.category).sum + 12 ≤ _; rw [zm_cat_sh]; omega) (k p e R s m args below meth c sl0 Cx H locs ls cells slots hR hl hL hc hs)
end
section
/-! returns in one rule -/
def zm_ret (i : Instr) (rt : Option FieldType) (st : List Value) : Option (Option Value) := match i, rt, st with
  | .ireturn, some .int, [.int v] => some (some (.int v))
  | .ireturn, some .boolean, [.int v] => if v = 0 ∨ v = 1 then some (some (.int v)) else none
  | .areturn, some (.object _), [.ref a] => some (some (.ref a))
  | .areturn, some (.object _), [.null] => some (some .null)
  | .areturn, some (.array _), [.ref a] => some (some (.ref a))
  | .return_, none, [] => some none
  | _, _, _ => none
theorem zm_J_fin (hT : zm_okt) {N : zm_N} {d mi pc : Nat} {lv : zm_L} {st : List Value} {G : zm_H} {Q : zm_O → zm_H → Prop} {q : zm_I} {v : Option Value} (hq : zm_cd mi pc = some q) (h : zm_ret q.1 (zm_rt mi) st = some v) (k : Q (.inl v) G) : zm_J N d mi pc lv st G Q := by
  obtain ⟨i, qa, qb, qn⟩ := q
  have hdg := (hT.1 mi pc _ hq).1
  unfold zm_ret at h
  split at h
  · rename_i hi hr
    have hi : i = .ireturn := hi
    subst hi
    cases Option.some.inj h
    exact zm_J_iret hdg hr rfl k
  · rename_i x hi hr
    have hi : i = .ireturn := hi
    subst hi
    split at h
    · rename_i hx
      cases Option.some.inj h
      refine zm_J_iret hdg hr ?_ k
      rcases hx with rfl | rfl <;> rfl
    · cases h
  · rename_i hi hr
    have hi : i = .areturn := hi
    subst hi
    cases Option.some.inj h
    exact zm_J_aret hdg hr rfl rfl k
  · rename_i hi hr
    have hi : i = .areturn := hi
    subst hi
    cases Option.some.inj h
    exact zm_J_aret hdg hr rfl rfl k
  · rename_i hi hr
    have hi : i = .areturn := hi
    subst hi
    cases Option.some.inj h
    exact zm_J_aret hdg hr rfl rfl k
  · rename_i hi hr
    have hi : i = .return_ := hi
    subst hi
    cases Option.some.inj h
    exact zm_J_vret hdg hr k
  · cases h
end
section
/-! THE TABLES' OWN ROWS, laid by wip/gen/gen.py: every instruction is as it stands in the code, and the words that it wants stand among the tables' -/
theorem zm_memT1 (i : Nat) {w : Cond} (h : tables_1_1[i]? = some w) : w ∈ zm_tb := List.mem_append_left _ (List.mem_append_right _ (List.mem_append_left _ (List.mem_of_getElem? h)))
theorem zm_memT2 (i : Nat) {w : Cond} (h : tables_1_2[i]? = some w) : w ∈ zm_tb := List.mem_append_left _ (List.mem_append_right _ (List.mem_append_right _ (List.mem_append_left _ (List.mem_of_getElem? h))))
theorem zm_memT3 (i : Nat) {w : Cond} (h : tables_1_3[i]? = some w) : w ∈ zm_tb := List.mem_append_left _ (List.mem_append_right _ (List.mem_append_right _ (List.mem_append_right _ (List.mem_append_left _ (List.mem_of_getElem? h)))))
theorem zm_memT4 (i : Nat) {w : Cond} (h : tables_1_4[i]? = some w) : w ∈ zm_tb := List.mem_append_left _ (List.mem_append_right _ (List.mem_append_right _ (List.mem_append_right _ (List.mem_append_right _ (List.mem_append_left _ (List.mem_of_getElem? h))))))
theorem zm_memT5 (i : Nat) {w : Cond} (h : tables_1_5[i]? = some w) : w ∈ zm_tb := List.mem_append_left _ (List.mem_append_right _ (List.mem_append_right _ (List.mem_append_right _ (List.mem_append_right _ (List.mem_append_right _ (List.mem_of_getElem? h))))))
theorem zm_memS (i : Nat) {w : Cond} (h : (k2_sels lw_privs)[i]? = some w) : w ∈ zm_tb := List.mem_append_left _ (List.mem_append_left _ (List.mem_of_getElem? h))
theorem zm_memE (i : Nat) {w : Cond} (h : zm_ex[i]? = some w) : w ∈ zm_tb := List.mem_append_right _ (List.mem_of_getElem? h)
theorem zm_okw_n {mi idx x y : Nat} {q : vw_C} (h : zm_cl[x]? = some q) (hf : (q.2.1 y).2.2.2 = false) : zm_okw mi idx x y := fun C T n h' => by
  have e := Option.some.inj (h.symm.trans h')
  subst e
  exact Or.inl hf
theorem zm_okw_f {mi idx x y : Nat} {q : vw_C} (h : zm_cl[x]? = some q) (h1 : (zm_mn mi).name = "<init>") (h2 : (q.2.1 y).1 = (zm_mn mi).cls) (h3 : Cond.fieldLink (zm_mn mi).cls idx (q.2.1 y).1 (q.2.1 y).2.1 (q.2.1 y).2.2.1 ∈ zm_tb) : zm_okw mi idx x y := fun C T n h' => by
  have e := Option.some.inj (h.symm.trans h')
  subst e
  exact Or.inr ⟨h1, h2, h3⟩
theorem zm_out0 {mi pc : Nat} (h : zm_hd mi = []) : zm_out mi pc := by
  intro q hq
  rw [h] at hq
  cases hq
theorem zw_0 : (Jvm.Cond.initialized "NeedMachineLaw") ∈ zm_tb := zm_memT1 0 rfl
theorem zw_1 : (Jvm.Cond.initialized "NeedMachine") ∈ zm_tb := zm_memT1 1 rfl
theorem zw_2 : (Jvm.Cond.initialized "NeedMachine$Text") ∈ zm_tb := zm_memT1 2 rfl
theorem zw_3 : (Jvm.Cond.initialized "NeedMachine$Store") ∈ zm_tb := zm_memT1 3 rfl
theorem zw_4 : (Jvm.Cond.initialized "NeedMachine$Value") ∈ zm_tb := zm_memT1 4 rfl
theorem zw_7 : (Jvm.Cond.initialized "java/util/ArrayList") ∈ zm_tb := zm_memT1 7 rfl
theorem zw_8 : (Jvm.Cond.initialized "NeedMachineModel") ∈ zm_tb := zm_memT1 8 rfl
theorem zw_12 : (Jvm.Cond.initialized "java/lang/IllegalArgumentException") ∈ zm_tb := zm_memT1 12 rfl
theorem zw_13 : (Jvm.Cond.initialized "java/lang/IllegalStateException") ∈ zm_tb := zm_memT1 13 rfl
theorem zw_14 : (Jvm.Cond.initialized "NeedMachine$Definition") ∈ zm_tb := zm_memT1 14 rfl
theorem zw_15 : (Jvm.Cond.initialized "NeedMachine$Expression") ∈ zm_tb := zm_memT1 15 rfl
theorem zw_16 : (Jvm.Cond.initialized "java/lang/Math") ∈ zm_tb := zm_memT1 16 rfl
theorem zw_17 : (Jvm.Cond.initialized "jdk/internal/util/ArraysSupport") ∈ zm_tb := zm_memT1 17 rfl
theorem zw_18 : (Jvm.Cond.initialized "java/util/Arrays") ∈ zm_tb := zm_memT1 18 rfl
theorem zw_19 : (Jvm.Cond.initialized "java/lang/System") ∈ zm_tb := zm_memT1 19 rfl
theorem zw_20 : (Jvm.Cond.initialized "java/util/Objects") ∈ zm_tb := zm_memT1 20 rfl
theorem zw_21 : (Jvm.Cond.initialized "jdk/internal/util/Preconditions") ∈ zm_tb := zm_memT1 21 rfl
theorem zw_22 : (Jvm.Cond.initialized "java/util/NoSuchElementException") ∈ zm_tb := zm_memT1 22 rfl
theorem zw_23 : (Jvm.Cond.initialized "NeedMachine$Closure") ∈ zm_tb := zm_memT1 23 rfl
theorem zw_24 : (Jvm.Cond.initialized "java/lang/UnsupportedOperationException") ∈ zm_tb := zm_memT1 24 rfl
theorem zw_25 : (Jvm.Cond.initialized "NeedMachine$Arguments") ∈ zm_tb := zm_memT1 25 rfl
theorem zw_26 : (Jvm.Cond.initialized "java/lang/ArithmeticException") ∈ zm_tb := zm_memT1 26 rfl
theorem zw_27 : (Jvm.Cond.classLink "NeedMachineLaw" (8 : Nat) "NeedMachine") ∈ zm_tb := zm_memT1 27 rfl
theorem zw_28 : (Jvm.Cond.instantiable "NeedMachine" (9 : Nat)) ∈ zm_tb := zm_memT1 28 rfl
theorem zw_29 : (Jvm.Cond.methodLink "NeedMachineLaw" (43 : Nat) ({ cls := "NeedMachine", name := "<init>", desc := "()V" } : Jvm.MethodName)) ∈ zm_tb := zm_memT1 29 rfl
theorem zw_30 : (Jvm.Cond.instanceMethod ({ cls := "NeedMachine", name := "<init>", desc := "()V" } : Jvm.MethodName)) ∈ zm_tb := zm_memT1 30 rfl
theorem zw_31 : (Jvm.Cond.code ({ cls := "NeedMachine", name := "<init>", desc := "()V" } : Jvm.MethodName) prog_1_method_1_code (1 : Nat) (Option.none : Option Jvm.ClassFile.FieldType)) ∈ zm_tb := zm_memT1 31 rfl
theorem zw_32 : (Jvm.Cond.methodLink "NeedMachine" (1 : Nat) ({ cls := "java/lang/Object", name := "<init>", desc := "()V" } : Jvm.MethodName)) ∈ zm_tb := zm_memT1 32 rfl
theorem zw_33 : (Jvm.Cond.instanceMethod ({ cls := "java/lang/Object", name := "<init>", desc := "()V" } : Jvm.MethodName)) ∈ zm_tb := zm_memT1 33 rfl
theorem zw_34 : (Jvm.Cond.code ({ cls := "java/lang/Object", name := "<init>", desc := "()V" } : Jvm.MethodName) object_method_1_code (1 : Nat) (Option.none : Option Jvm.ClassFile.FieldType)) ∈ zm_tb := zm_memT1 34 rfl
theorem zw_35 : (Jvm.Cond.classLink "NeedMachine" (7 : Nat) "NeedMachine$Text") ∈ zm_tb := zm_memT1 35 rfl
theorem zw_36 : (Jvm.Cond.instantiable "NeedMachine$Text" (8 : Nat)) ∈ zm_tb := zm_memT1 36 rfl
theorem zw_37 : (Jvm.Cond.methodLink "NeedMachine" (9 : Nat) ({ cls := "NeedMachine$Text", name := "<init>", desc := "()V" } : Jvm.MethodName)) ∈ zm_tb := zm_memT1 37 rfl
theorem zw_38 : (Jvm.Cond.instanceMethod ({ cls := "NeedMachine$Text", name := "<init>", desc := "()V" } : Jvm.MethodName)) ∈ zm_tb := zm_memT1 38 rfl
theorem zw_39 : (Jvm.Cond.code ({ cls := "NeedMachine$Text", name := "<init>", desc := "()V" } : Jvm.MethodName) prog_7_method_1_code (1 : Nat) (Option.none : Option Jvm.ClassFile.FieldType)) ∈ zm_tb := zm_memT1 39 rfl
theorem zw_40 : (Jvm.Cond.methodLink "NeedMachine$Text" (3 : Nat) ({ cls := "java/lang/Object", name := "<init>", desc := "()V" } : Jvm.MethodName)) ∈ zm_tb := zm_memT1 40 rfl
theorem zw_41 : (Jvm.Cond.fieldLink "NeedMachine$Text" (33 : Nat) "NeedMachine$Text" "length" "I") ∈ zm_tb := zm_memT1 41 rfl
theorem zw_42 : (Jvm.Cond.fieldLink "NeedMachine" (108 : Nat) "NeedMachine$Text" "length" "I") ∈ zm_tb := zm_memT1 42 rfl
theorem zw_43 : (Jvm.Cond.fieldLink "NeedMachine$Text" (9 : Nat) "NeedMachine$Text" "badPlace" "I") ∈ zm_tb := zm_memT1 43 rfl
theorem zw_44 : (Jvm.Cond.fieldLink "NeedMachine" (105 : Nat) "NeedMachine$Text" "badPlace" "I") ∈ zm_tb := zm_memT1 44 rfl
theorem zw_45 : (Jvm.Cond.fieldLink "NeedMachine$Text" (15 : Nat) "NeedMachine$Text" "characters" "[C") ∈ zm_tb := zm_memT1 45 rfl
theorem zw_46 : (Jvm.Cond.fieldLink "NeedMachine$Text" (19 : Nat) "NeedMachine$Text" "parameters" "[C") ∈ zm_tb := zm_memT1 46 rfl
theorem zw_47 : (Jvm.Cond.fieldLink "NeedMachine$Text" (63 : Nat) "NeedMachine$Text" "parametersRead" "I") ∈ zm_tb := zm_memT1 47 rfl
theorem zw_48 : (Jvm.Cond.fieldLink "NeedMachine$Text" (47 : Nat) "NeedMachine$Text" "end" "I") ∈ zm_tb := zm_memT1 48 rfl
theorem zw_49 : (Jvm.Cond.fieldLink "NeedMachine$Text" (44 : Nat) "NeedMachine$Text" "place" "I") ∈ zm_tb := zm_memT1 49 rfl
theorem zw_50 : (Jvm.Cond.fieldLink "NeedMachine$Text" (76 : Nat) "NeedMachine$Text" "owed" "I") ∈ zm_tb := zm_memT1 50 rfl
theorem zw_68 : (Jvm.Cond.arrayClass Jvm.ClassFile.FieldType.char) ∈ zm_tb := zm_memT1 68 rfl
theorem zw_69 : (Jvm.Cond.classLink "NeedMachine" (16 : Nat) "NeedMachine$Store") ∈ zm_tb := zm_memT1 69 rfl
theorem zw_70 : (Jvm.Cond.instantiable "NeedMachine$Store" (7 : Nat)) ∈ zm_tb := zm_memT1 70 rfl
theorem zw_71 : (Jvm.Cond.methodLink "NeedMachine" (18 : Nat) ({ cls := "NeedMachine$Store", name := "<init>", desc := "()V" } : Jvm.MethodName)) ∈ zm_tb := zm_memT1 71 rfl
theorem zw_72 : (Jvm.Cond.instanceMethod ({ cls := "NeedMachine$Store", name := "<init>", desc := "()V" } : Jvm.MethodName)) ∈ zm_tb := zm_memT1 72 rfl
theorem zw_73 : (Jvm.Cond.code ({ cls := "NeedMachine$Store", name := "<init>", desc := "()V" } : Jvm.MethodName) prog_6_method_1_code (1 : Nat) (Option.none : Option Jvm.ClassFile.FieldType)) ∈ zm_tb := zm_memT1 73 rfl
theorem zw_74 : (Jvm.Cond.methodLink "NeedMachine$Store" (3 : Nat) ({ cls := "java/lang/Object", name := "<init>", desc := "()V" } : Jvm.MethodName)) ∈ zm_tb := zm_memT1 74 rfl
theorem zw_75 : (Jvm.Cond.classLink "NeedMachine$Store" (9 : Nat) "NeedMachine$Value") ∈ zm_tb := zm_memT1 75 rfl
theorem zw_76 : (Jvm.Cond.instantiable "NeedMachine$Value" (5 : Nat)) ∈ zm_tb := zm_memT1 76 rfl
theorem zw_77 : (Jvm.Cond.methodLinkNest "NeedMachine$Store" (11 : Nat) ({ cls := "NeedMachine$Value", name := "<init>", desc := "()V" } : Jvm.MethodName) "NeedMachine") ∈ zm_tb := zm_memT1 77 rfl
theorem zw_78 : (Jvm.Cond.instanceMethod ({ cls := "NeedMachine$Value", name := "<init>", desc := "()V" } : Jvm.MethodName)) ∈ zm_tb := zm_memT1 78 rfl
theorem zw_79 : (Jvm.Cond.code ({ cls := "NeedMachine$Value", name := "<init>", desc := "()V" } : Jvm.MethodName) prog_8_method_1_code (1 : Nat) (Option.none : Option Jvm.ClassFile.FieldType)) ∈ zm_tb := zm_memT1 79 rfl
theorem zw_80 : (Jvm.Cond.methodLink "NeedMachine$Value" (1 : Nat) ({ cls := "java/lang/Object", name := "<init>", desc := "()V" } : Jvm.MethodName)) ∈ zm_tb := zm_memT1 80 rfl
theorem zw_81 : (Jvm.Cond.fieldLink "NeedMachine$Store" (18 : Nat) "NeedMachine$Value" "kind" "I") ∈ zm_tb := zm_memT1 81 rfl
theorem zw_82 : (Jvm.Cond.fieldLink "NeedMachine" (65 : Nat) "NeedMachine$Value" "kind" "I") ∈ zm_tb := zm_memT1 82 rfl
theorem zw_83 : (Jvm.Cond.fieldLink "NeedMachine$Store" (48 : Nat) "NeedMachine$Value" "number" "I") ∈ zm_tb := zm_memT1 83 rfl
theorem zw_84 : (Jvm.Cond.fieldLink "NeedMachine" (203 : Nat) "NeedMachine$Value" "number" "I") ∈ zm_tb := zm_memT1 84 rfl
theorem zw_85 : (Jvm.Cond.fieldLink "NeedMachine$Store" (51 : Nat) "NeedMachine$Value" "head" "LNeedMachine$Closure;") ∈ zm_tb := zm_memT1 85 rfl
theorem zw_86 : (Jvm.Cond.fieldLink "NeedMachine" (85 : Nat) "NeedMachine$Value" "head" "LNeedMachine$Closure;") ∈ zm_tb := zm_memT1 86 rfl
theorem zw_87 : (Jvm.Cond.fieldLink "NeedMachine$Store" (55 : Nat) "NeedMachine$Value" "tail" "LNeedMachine$Closure;") ∈ zm_tb := zm_memT1 87 rfl
theorem zw_88 : (Jvm.Cond.fieldLink "NeedMachine" (93 : Nat) "NeedMachine$Value" "tail" "LNeedMachine$Closure;") ∈ zm_tb := zm_memT1 88 rfl
theorem zw_89 : (Jvm.Cond.fieldLink "NeedMachine$Store" (58 : Nat) "NeedMachine$Value" "arguments" "LNeedMachine$Arguments;") ∈ zm_tb := zm_memT1 89 rfl
theorem zw_90 : (Jvm.Cond.fieldLink "NeedMachine" (206 : Nat) "NeedMachine$Value" "arguments" "LNeedMachine$Arguments;") ∈ zm_tb := zm_memT1 90 rfl
theorem zw_102 : (Jvm.Cond.classLink "NeedMachine$Store" (22 : Nat) "java/util/ArrayList") ∈ zm_tb := zm_memT1 102 rfl
theorem zw_103 : (Jvm.Cond.instantiable "java/util/ArrayList" (3 : Nat)) ∈ zm_tb := zm_memT1 103 rfl
theorem zw_104 : (Jvm.Cond.methodLink "NeedMachine$Store" (24 : Nat) ({ cls := "java/util/ArrayList", name := "<init>", desc := "()V" } : Jvm.MethodName)) ∈ zm_tb := zm_memT1 104 rfl
theorem zw_105 : (Jvm.Cond.instanceMethod ({ cls := "java/util/ArrayList", name := "<init>", desc := "()V" } : Jvm.MethodName)) ∈ zm_tb := zm_memT1 105 rfl
theorem zw_106 : (Jvm.Cond.code ({ cls := "java/util/ArrayList", name := "<init>", desc := "()V" } : Jvm.MethodName) prog_26_method_2_code (1 : Nat) (Option.none : Option Jvm.ClassFile.FieldType)) ∈ zm_tb := zm_memT1 106 rfl
theorem zw_107 : (Jvm.Cond.methodLink "java/util/ArrayList" (1 : Nat) ({ cls := "java/util/AbstractList", name := "<init>", desc := "()V" } : Jvm.MethodName)) ∈ zm_tb := zm_memT1 107 rfl
theorem zw_108 : (Jvm.Cond.instanceMethod ({ cls := "java/util/AbstractList", name := "<init>", desc := "()V" } : Jvm.MethodName)) ∈ zm_tb := zm_memT1 108 rfl
theorem zw_109 : (Jvm.Cond.code ({ cls := "java/util/AbstractList", name := "<init>", desc := "()V" } : Jvm.MethodName) prog_25_method_1_code (1 : Nat) (Option.none : Option Jvm.ClassFile.FieldType)) ∈ zm_tb := zm_memT1 109 rfl
theorem zw_110 : (Jvm.Cond.methodLink "java/util/AbstractList" (1 : Nat) ({ cls := "java/util/AbstractCollection", name := "<init>", desc := "()V" } : Jvm.MethodName)) ∈ zm_tb := zm_memT1 110 rfl
theorem zw_111 : (Jvm.Cond.instanceMethod ({ cls := "java/util/AbstractCollection", name := "<init>", desc := "()V" } : Jvm.MethodName)) ∈ zm_tb := zm_memT1 111 rfl
theorem zw_112 : (Jvm.Cond.code ({ cls := "java/util/AbstractCollection", name := "<init>", desc := "()V" } : Jvm.MethodName) prog_24_method_1_code (1 : Nat) (Option.none : Option Jvm.ClassFile.FieldType)) ∈ zm_tb := zm_memT1 112 rfl
theorem zw_113 : (Jvm.Cond.methodLink "java/util/AbstractCollection" (1 : Nat) ({ cls := "java/lang/Object", name := "<init>", desc := "()V" } : Jvm.MethodName)) ∈ zm_tb := zm_memT1 113 rfl
theorem zw_114 : (Jvm.Cond.fieldLink "java/util/ArrayList" (39 : Nat) "java/util/ArrayList" "DEFAULTCAPACITY_EMPTY_ELEMENTDATA" "[Ljava/lang/Object;") ∈ zm_tb := zm_memT1 114 rfl
theorem zw_116 : (Jvm.Cond.fieldLink "java/util/ArrayList" (9 : Nat) "java/util/ArrayList" "elementData" "[Ljava/lang/Object;") ∈ zm_tb := zm_memT1 116 rfl
theorem zw_117 : (Jvm.Cond.fieldLink "java/util/ArrayList" (48 : Nat) "java/util/ArrayList" "size" "I") ∈ zm_tb := zm_memT1 117 rfl
theorem zw_118 : (Jvm.Cond.fieldLink "java/util/AbstractList" (7 : Nat) "java/util/AbstractList" "modCount" "I") ∈ zm_tb := zm_memT1 118 rfl
theorem zw_119 : (Jvm.Cond.fieldLink "java/util/ArrayList" (63 : Nat) "java/util/ArrayList" "modCount" "I") ∈ zm_tb := zm_memT1 119 rfl
theorem zw_120 : (Jvm.Cond.sameField "java/util/ArrayList" "java/util/AbstractList" "modCount" "I") ∈ zm_tb := zm_memT1 120 rfl
theorem zw_128 : (Jvm.Cond.fieldLink "NeedMachine$Store" (12 : Nat) "NeedMachine$Store" "nil" "LNeedMachine$Value;") ∈ zm_tb := zm_memT1 128 rfl
theorem zw_129 : (Jvm.Cond.fieldLink "NeedMachine" (152 : Nat) "NeedMachine$Store" "nil" "LNeedMachine$Value;") ∈ zm_tb := zm_memT1 129 rfl
theorem zw_130 : (Jvm.Cond.fieldLink "NeedMachine$Store" (25 : Nat) "NeedMachine$Store" "values" "Ljava/util/ArrayList;") ∈ zm_tb := zm_memT1 130 rfl
theorem zw_131 : (Jvm.Cond.fieldLink "NeedMachine$Store" (29 : Nat) "NeedMachine$Store" "closures" "Ljava/util/ArrayList;") ∈ zm_tb := zm_memT1 131 rfl
theorem zw_132 : (Jvm.Cond.fieldLink "NeedMachine$Store" (32 : Nat) "NeedMachine$Store" "chains" "Ljava/util/ArrayList;") ∈ zm_tb := zm_memT1 132 rfl
theorem zw_133 : (Jvm.Cond.fieldLink "NeedMachine$Store" (35 : Nat) "NeedMachine$Store" "valuesUsed" "I") ∈ zm_tb := zm_memT1 133 rfl
theorem zw_134 : (Jvm.Cond.fieldLink "NeedMachine$Store" (38 : Nat) "NeedMachine$Store" "closuresUsed" "I") ∈ zm_tb := zm_memT1 134 rfl
theorem zw_135 : (Jvm.Cond.fieldLink "NeedMachine$Store" (41 : Nat) "NeedMachine$Store" "chainsUsed" "I") ∈ zm_tb := zm_memT1 135 rfl
theorem zw_151 : (Jvm.Cond.classLink "NeedMachine" (23 : Nat) "NeedMachine$Definition") ∈ zm_tb := zm_memT1 151 rfl
theorem zw_152 : (Jvm.Cond.arrayOver (Jvm.ClassFile.FieldType.object "NeedMachine$Definition")) ∈ zm_tb := zm_memT1 152 rfl
theorem zw_153 : (Jvm.Cond.fieldLink "NeedMachine" (10 : Nat) "NeedMachine" "text" "LNeedMachine$Text;") ∈ zm_tb := zm_memT1 153 rfl
theorem zw_154 : (Jvm.Cond.fieldLink "NeedMachine" (19 : Nat) "NeedMachine" "store" "LNeedMachine$Store;") ∈ zm_tb := zm_memT1 154 rfl
theorem zw_155 : (Jvm.Cond.fieldLink "NeedMachine" (25 : Nat) "NeedMachine" "definitions" "[LNeedMachine$Definition;") ∈ zm_tb := zm_memT1 155 rfl
theorem zw_156 : (Jvm.Cond.fieldLink "NeedMachine" (48 : Nat) "NeedMachine" "result" "LNeedMachine$Value;") ∈ zm_tb := zm_memT1 156 rfl
theorem zw_157 : (Jvm.Cond.fieldLink "NeedMachine" (55 : Nat) "NeedMachine" "calls" "I") ∈ zm_tb := zm_memT1 157 rfl
theorem zw_158 : (Jvm.Cond.fieldLink "NeedMachine" (115 : Nat) "NeedMachine" "callsOfAll" "I") ∈ zm_tb := zm_memT1 158 rfl
theorem zw_159 : (Jvm.Cond.fieldLink "NeedMachine" (118 : Nat) "NeedMachine" "forcedFirst" "I") ∈ zm_tb := zm_memT1 159 rfl
theorem zw_160 : (Jvm.Cond.fieldLink "NeedMachine" (121 : Nat) "NeedMachine" "forcedLater" "I") ∈ zm_tb := zm_memT1 160 rfl
theorem zw_161 : (Jvm.Cond.fieldLink "NeedMachine" (58 : Nat) "NeedMachine" "deepest" "I") ∈ zm_tb := zm_memT1 161 rfl
theorem zw_181 : (Jvm.Cond.methodLink "NeedMachineLaw" (75 : Nat) ({ cls := "NeedMachine", name := "count", desc := "(I)I" } : Jvm.MethodName)) ∈ zm_tb := zm_memT1 181 rfl
theorem zw_182 : (Jvm.Cond.instanceMethod ({ cls := "NeedMachine", name := "count", desc := "(I)I" } : Jvm.MethodName)) ∈ zm_tb := zm_memT1 182 rfl
theorem zw_183 : (Jvm.Cond.selects "NeedMachine" ({ cls := "NeedMachine", name := "count", desc := "(I)I" } : Jvm.MethodName) ({ cls := "NeedMachine", name := "count", desc := "(I)I" } : Jvm.MethodName)) ∈ zm_tb := zm_memT1 183 rfl
theorem zw_184 : (Jvm.Cond.code ({ cls := "NeedMachine", name := "count", desc := "(I)I" } : Jvm.MethodName) prog_1_method_9_code (2 : Nat) (Option.some Jvm.ClassFile.FieldType.int)) ∈ zm_tb := zm_memT1 184 rfl
theorem zw_185 : (Jvm.Cond.methodLink "NeedMachine" (111 : Nat) ({ cls := "NeedMachine", name := "countDefinitions", desc := "()I" } : Jvm.MethodName)) ∈ zm_tb := zm_memT1 185 rfl
theorem zw_187 : (Jvm.Cond.instanceMethod ({ cls := "NeedMachine", name := "countDefinitions", desc := "()I" } : Jvm.MethodName)) ∈ zm_tb := zm_memT1 187 rfl
theorem zw_188 : (Jvm.Cond.code ({ cls := "NeedMachine", name := "countDefinitions", desc := "()I" } : Jvm.MethodName) prog_1_method_10_code (6 : Nat) (Option.some Jvm.ClassFile.FieldType.int)) ∈ zm_tb := zm_memT1 188 rfl
theorem zw_189 : (Jvm.Cond.methodLink "NeedMachineLaw" (49 : Nat) ({ cls := "NeedMachineLaw", name := "type", desc := "(LNeedMachine;J[J)I" } : Jvm.MethodName)) ∈ zm_tb := zm_memT1 189 rfl
theorem zw_190 : (Jvm.Cond.static ({ cls := "NeedMachineLaw", name := "type", desc := "(LNeedMachine;J[J)I" } : Jvm.MethodName)) ∈ zm_tb := zm_memT1 190 rfl
theorem zw_191 : (Jvm.Cond.codeWith ({ cls := "NeedMachineLaw", name := "type", desc := "(LNeedMachine;J[J)I" } : Jvm.MethodName) method_3_code (5 : Nat) (Option.some Jvm.ClassFile.FieldType.int) [((0 : Nat), (9 : Nat), (12 : Nat), (13 : Nat)), ((0 : Nat), (9 : Nat), (16 : Nat), (15 : Nat))]) ∈ zm_tb := zm_memT1 191 rfl
theorem zw_192 : (Jvm.Cond.classLink "NeedMachineLaw" (13 : Nat) "java/lang/IllegalArgumentException") ∈ zm_tb := zm_memT1 192 rfl
theorem zw_193 : (Jvm.Cond.classLink "NeedMachineLaw" (15 : Nat) "java/lang/IllegalStateException") ∈ zm_tb := zm_memT1 193 rfl
theorem zw_194 : (Jvm.Cond.methodLink "NeedMachineLaw" (7 : Nat) ({ cls := "NeedMachine", name := "type", desc := "(J)I" } : Jvm.MethodName)) ∈ zm_tb := zm_memT1 194 rfl
theorem zw_195 : (Jvm.Cond.instanceMethod ({ cls := "NeedMachine", name := "type", desc := "(J)I" } : Jvm.MethodName)) ∈ zm_tb := zm_memT1 195 rfl
theorem zw_196 : (Jvm.Cond.selects "NeedMachine" ({ cls := "NeedMachine", name := "type", desc := "(J)I" } : Jvm.MethodName) ({ cls := "NeedMachine", name := "type", desc := "(J)I" } : Jvm.MethodName)) ∈ zm_tb := zm_memT1 196 rfl
theorem zw_197 : (Jvm.Cond.code ({ cls := "NeedMachine", name := "type", desc := "(J)I" } : Jvm.MethodName) prog_1_method_2_code (3 : Nat) (Option.some Jvm.ClassFile.FieldType.int)) ∈ zm_tb := zm_memT1 197 rfl
theorem zw_198 : (Jvm.Cond.methodLink "NeedMachine" (29 : Nat) ({ cls := "NeedMachine$Text", name := "add", desc := "(J)I" } : Jvm.MethodName)) ∈ zm_tb := zm_memT1 198 rfl
theorem zw_199 : (Jvm.Cond.instanceMethod ({ cls := "NeedMachine$Text", name := "add", desc := "(J)I" } : Jvm.MethodName)) ∈ zm_tb := zm_memT1 199 rfl
theorem zw_200 : (Jvm.Cond.selects "NeedMachine$Text" ({ cls := "NeedMachine$Text", name := "add", desc := "(J)I" } : Jvm.MethodName) ({ cls := "NeedMachine$Text", name := "add", desc := "(J)I" } : Jvm.MethodName)) ∈ zm_tb := zm_memT1 200 rfl
theorem zw_201 : (Jvm.Cond.code ({ cls := "NeedMachine$Text", name := "add", desc := "(J)I" } : Jvm.MethodName) prog_7_method_2_code (6 : Nat) (Option.some Jvm.ClassFile.FieldType.int)) ∈ zm_tb := zm_memT1 201 rfl
theorem zw_202 : (Jvm.Cond.methodLink "NeedMachine$Text" (22 : Nat) ({ cls := "NeedMachine$Text", name := "byteAt", desc := "(JI)I" } : Jvm.MethodName)) ∈ zm_tb := zm_memT1 202 rfl
theorem zw_203 : (Jvm.Cond.static ({ cls := "NeedMachine$Text", name := "byteAt", desc := "(JI)I" } : Jvm.MethodName)) ∈ zm_tb := zm_memT1 203 rfl
theorem zw_204 : (Jvm.Cond.code ({ cls := "NeedMachine$Text", name := "byteAt", desc := "(JI)I" } : Jvm.MethodName) prog_7_method_3_code (3 : Nat) (Option.some Jvm.ClassFile.FieldType.int)) ∈ zm_tb := zm_memT1 204 rfl
theorem zw_205 : (Jvm.Cond.classLink "NeedMachine$Text" (26 : Nat) "java/lang/IllegalArgumentException") ∈ zm_tb := zm_memT1 205 rfl
theorem zw_206 : (Jvm.Cond.instantiable "java/lang/IllegalArgumentException" (6 : Nat)) ∈ zm_tb := zm_memT1 206 rfl
theorem zw_207 : (Jvm.Cond.castable "java/lang/IllegalArgumentException" "java/lang/IllegalArgumentException") ∈ zm_tb := zm_memT1 207 rfl
theorem zw_248 : (Jvm.Cond.stringRef "NeedMachine$Text" (28 : Nat) "not a character of a text") ∈ zm_tb := zm_memT2 8 rfl
theorem zw_249 : (Jvm.Cond.methodLink "NeedMachine$Text" (30 : Nat) ({ cls := "java/lang/IllegalArgumentException", name := "<init>", desc := "(Ljava/lang/String;)V" } : Jvm.MethodName)) ∈ zm_tb := zm_memT2 9 rfl
theorem zw_275 : (Jvm.Cond.classLink "NeedMachine$Text" (36 : Nat) "java/lang/IllegalStateException") ∈ zm_tb := zm_memT2 35 rfl
theorem zw_276 : (Jvm.Cond.instantiable "java/lang/IllegalStateException" (6 : Nat)) ∈ zm_tb := zm_memT2 36 rfl
theorem zw_277 : (Jvm.Cond.castable "java/lang/IllegalStateException" "java/lang/IllegalStateException") ∈ zm_tb := zm_memT2 37 rfl
theorem zw_284 : (Jvm.Cond.stringRef "NeedMachine$Text" (38 : Nat) "the text would be too long") ∈ zm_tb := zm_memT2 44 rfl
theorem zw_285 : (Jvm.Cond.methodLink "NeedMachine$Text" (40 : Nat) ({ cls := "java/lang/IllegalStateException", name := "<init>", desc := "(Ljava/lang/String;)V" } : Jvm.MethodName)) ∈ zm_tb := zm_memT2 45 rfl
theorem zw_291 : (Jvm.Cond.methodLink "NeedMachineLaw" (55 : Nat) ({ cls := "NeedMachineLaw", name := "define", desc := "(LNeedMachine;[J)I" } : Jvm.MethodName)) ∈ zm_tb := zm_memT2 51 rfl
theorem zw_292 : (Jvm.Cond.static ({ cls := "NeedMachineLaw", name := "define", desc := "(LNeedMachine;[J)I" } : Jvm.MethodName)) ∈ zm_tb := zm_memT2 52 rfl
theorem zw_293 : (Jvm.Cond.codeWith ({ cls := "NeedMachineLaw", name := "define", desc := "(LNeedMachine;[J)I" } : Jvm.MethodName) method_4_code (3 : Nat) (Option.some Jvm.ClassFile.FieldType.int) [((0 : Nat), (8 : Nat), (11 : Nat), (13 : Nat))]) ∈ zm_tb := zm_memT2 53 rfl
theorem zw_294 : (Jvm.Cond.methodLink "NeedMachineLaw" (17 : Nat) ({ cls := "NeedMachine", name := "define", desc := "()I" } : Jvm.MethodName)) ∈ zm_tb := zm_memT2 54 rfl
theorem zw_295 : (Jvm.Cond.instanceMethod ({ cls := "NeedMachine", name := "define", desc := "()I" } : Jvm.MethodName)) ∈ zm_tb := zm_memT2 55 rfl
theorem zw_296 : (Jvm.Cond.selects "NeedMachine" ({ cls := "NeedMachine", name := "define", desc := "()I" } : Jvm.MethodName) ({ cls := "NeedMachine", name := "define", desc := "()I" } : Jvm.MethodName)) ∈ zm_tb := zm_memT2 56 rfl
theorem zw_297 : (Jvm.Cond.code ({ cls := "NeedMachine", name := "define", desc := "()I" } : Jvm.MethodName) prog_1_method_3_code (2 : Nat) (Option.some Jvm.ClassFile.FieldType.int)) ∈ zm_tb := zm_memT2 57 rfl
theorem zw_298 : (Jvm.Cond.methodLink "NeedMachine" (33 : Nat) ({ cls := "NeedMachine$Text", name := "readDefinition", desc := "()LNeedMachine$Definition;" } : Jvm.MethodName)) ∈ zm_tb := zm_memT2 58 rfl
theorem zw_299 : (Jvm.Cond.instanceMethod ({ cls := "NeedMachine$Text", name := "readDefinition", desc := "()LNeedMachine$Definition;" } : Jvm.MethodName)) ∈ zm_tb := zm_memT2 59 rfl
theorem zw_300 : (Jvm.Cond.selects "NeedMachine$Text" ({ cls := "NeedMachine$Text", name := "readDefinition", desc := "()LNeedMachine$Definition;" } : Jvm.MethodName) ({ cls := "NeedMachine$Text", name := "readDefinition", desc := "()LNeedMachine$Definition;" } : Jvm.MethodName)) ∈ zm_tb := zm_memT2 60 rfl
theorem zw_301 : (Jvm.Cond.code ({ cls := "NeedMachine$Text", name := "readDefinition", desc := "()LNeedMachine$Definition;" } : Jvm.MethodName) prog_7_method_4_code (2 : Nat) (Option.some (Jvm.ClassFile.FieldType.object "NeedMachine$Definition"))) ∈ zm_tb := zm_memT2 61 rfl
theorem zw_302 : (Jvm.Cond.methodLink "NeedMachine$Text" (41 : Nat) ({ cls := "NeedMachine$Text", name := "beginReading", desc := "()V" } : Jvm.MethodName)) ∈ zm_tb := zm_memT2 62 rfl
theorem zw_304 : (Jvm.Cond.instanceMethod ({ cls := "NeedMachine$Text", name := "beginReading", desc := "()V" } : Jvm.MethodName)) ∈ zm_tb := zm_memT2 64 rfl
theorem zw_305 : (Jvm.Cond.code ({ cls := "NeedMachine$Text", name := "beginReading", desc := "()V" } : Jvm.MethodName) prog_7_method_6_code (1 : Nat) (Option.none : Option Jvm.ClassFile.FieldType)) ∈ zm_tb := zm_memT2 65 rfl
theorem zw_306 : (Jvm.Cond.methodLink "NeedMachine$Text" (50 : Nat) ({ cls := "NeedMachine$Text", name := "isName", desc := "(C)Z" } : Jvm.MethodName)) ∈ zm_tb := zm_memT2 66 rfl
theorem zw_307 : (Jvm.Cond.static ({ cls := "NeedMachine$Text", name := "isName", desc := "(C)Z" } : Jvm.MethodName)) ∈ zm_tb := zm_memT2 67 rfl
theorem zw_308 : (Jvm.Cond.code ({ cls := "NeedMachine$Text", name := "isName", desc := "(C)Z" } : Jvm.MethodName) prog_7_method_16_code (1 : Nat) (Option.some Jvm.ClassFile.FieldType.boolean)) ∈ zm_tb := zm_memT2 68 rfl
theorem zw_309 : (Jvm.Cond.methodLink "NeedMachine$Text" (54 : Nat) ({ cls := "NeedMachine$Text", name := "refuseUnless", desc := "(Z)V" } : Jvm.MethodName)) ∈ zm_tb := zm_memT2 69 rfl
theorem zw_311 : (Jvm.Cond.instanceMethod ({ cls := "NeedMachine$Text", name := "refuseUnless", desc := "(Z)V" } : Jvm.MethodName)) ∈ zm_tb := zm_memT2 71 rfl
theorem zw_312 : (Jvm.Cond.code ({ cls := "NeedMachine$Text", name := "refuseUnless", desc := "(Z)V" } : Jvm.MethodName) prog_7_method_18_code (2 : Nat) (Option.none : Option Jvm.ClassFile.FieldType)) ∈ zm_tb := zm_memT2 72 rfl
theorem zw_313 : (Jvm.Cond.stringRef "NeedMachine$Text" (109 : Nat) "the text cannot be read") ∈ zm_tb := zm_memT2 73 rfl
theorem zw_314 : (Jvm.Cond.methodLink "NeedMachine$Text" (58 : Nat) ({ cls := "NeedMachine$Text", name := "readParameters", desc := "()V" } : Jvm.MethodName)) ∈ zm_tb := zm_memT2 74 rfl
theorem zw_316 : (Jvm.Cond.instanceMethod ({ cls := "NeedMachine$Text", name := "readParameters", desc := "()V" } : Jvm.MethodName)) ∈ zm_tb := zm_memT2 76 rfl
theorem zw_317 : (Jvm.Cond.code ({ cls := "NeedMachine$Text", name := "readParameters", desc := "()V" } : Jvm.MethodName) prog_7_method_7_code (1 : Nat) (Option.none : Option Jvm.ClassFile.FieldType)) ∈ zm_tb := zm_memT2 77 rfl
theorem zw_318 : (Jvm.Cond.methodLink "NeedMachine$Text" (73 : Nat) ({ cls := "NeedMachine$Text", name := "isNewParameter", desc := "(C)Z" } : Jvm.MethodName)) ∈ zm_tb := zm_memT2 78 rfl
theorem zw_320 : (Jvm.Cond.instanceMethod ({ cls := "NeedMachine$Text", name := "isNewParameter", desc := "(C)Z" } : Jvm.MethodName)) ∈ zm_tb := zm_memT2 80 rfl
theorem zw_321 : (Jvm.Cond.code ({ cls := "NeedMachine$Text", name := "isNewParameter", desc := "(C)Z" } : Jvm.MethodName) prog_7_method_13_code (2 : Nat) (Option.some Jvm.ClassFile.FieldType.boolean)) ∈ zm_tb := zm_memT2 81 rfl
theorem zw_322 : (Jvm.Cond.methodLink "NeedMachine$Text" (103 : Nat) ({ cls := "NeedMachine$Text", name := "parameterIndex", desc := "(C)I" } : Jvm.MethodName)) ∈ zm_tb := zm_memT2 82 rfl
theorem zw_324 : (Jvm.Cond.instanceMethod ({ cls := "NeedMachine$Text", name := "parameterIndex", desc := "(C)I" } : Jvm.MethodName)) ∈ zm_tb := zm_memT2 84 rfl
theorem zw_325 : (Jvm.Cond.code ({ cls := "NeedMachine$Text", name := "parameterIndex", desc := "(C)I" } : Jvm.MethodName) prog_7_method_14_code (3 : Nat) (Option.some Jvm.ClassFile.FieldType.int)) ∈ zm_tb := zm_memT2 85 rfl
theorem zw_326 : (Jvm.Cond.classLink "NeedMachine$Text" (61 : Nat) "NeedMachine$Definition") ∈ zm_tb := zm_memT2 86 rfl
theorem zw_327 : (Jvm.Cond.instantiable "NeedMachine$Definition" (3 : Nat)) ∈ zm_tb := zm_memT2 87 rfl
theorem zw_328 : (Jvm.Cond.methodLink "NeedMachine$Text" (66 : Nat) ({ cls := "NeedMachine$Text", name := "readToTheEnd", desc := "()LNeedMachine$Expression;" } : Jvm.MethodName)) ∈ zm_tb := zm_memT2 88 rfl
theorem zw_330 : (Jvm.Cond.instanceMethod ({ cls := "NeedMachine$Text", name := "readToTheEnd", desc := "()LNeedMachine$Expression;" } : Jvm.MethodName)) ∈ zm_tb := zm_memT2 90 rfl
theorem zw_331 : (Jvm.Cond.code ({ cls := "NeedMachine$Text", name := "readToTheEnd", desc := "()LNeedMachine$Expression;" } : Jvm.MethodName) prog_7_method_8_code (2 : Nat) (Option.some (Jvm.ClassFile.FieldType.object "NeedMachine$Expression"))) ∈ zm_tb := zm_memT2 91 rfl
theorem zw_332 : (Jvm.Cond.methodLink "NeedMachine$Text" (79 : Nat) ({ cls := "NeedMachine$Text", name := "readExpression", desc := "(I)LNeedMachine$Expression;" } : Jvm.MethodName)) ∈ zm_tb := zm_memT2 92 rfl
theorem zw_334 : (Jvm.Cond.instanceMethod ({ cls := "NeedMachine$Text", name := "readExpression", desc := "(I)LNeedMachine$Expression;" } : Jvm.MethodName)) ∈ zm_tb := zm_memT2 94 rfl
theorem zw_335 : (Jvm.Cond.code ({ cls := "NeedMachine$Text", name := "readExpression", desc := "(I)LNeedMachine$Expression;" } : Jvm.MethodName) prog_7_method_9_code (7 : Nat) (Option.some (Jvm.ClassFile.FieldType.object "NeedMachine$Expression"))) ∈ zm_tb := zm_memT2 95 rfl
theorem zw_336 : (Jvm.Cond.methodLink "NeedMachine$Text" (83 : Nat) ({ cls := "NeedMachine$Text", name := "canStand", desc := "(CI)Z" } : Jvm.MethodName)) ∈ zm_tb := zm_memT2 96 rfl
theorem zw_338 : (Jvm.Cond.instanceMethod ({ cls := "NeedMachine$Text", name := "canStand", desc := "(CI)Z" } : Jvm.MethodName)) ∈ zm_tb := zm_memT2 98 rfl
theorem zw_339 : (Jvm.Cond.code ({ cls := "NeedMachine$Text", name := "canStand", desc := "(CI)Z" } : Jvm.MethodName) prog_7_method_11_code (4 : Nat) (Option.some Jvm.ClassFile.FieldType.boolean)) ∈ zm_tb := zm_memT2 99 rfl
theorem zw_340 : (Jvm.Cond.methodLink "NeedMachine$Text" (87 : Nat) ({ cls := "NeedMachine$Text", name := "partsOf", desc := "(C)I" } : Jvm.MethodName)) ∈ zm_tb := zm_memT2 100 rfl
theorem zw_341 : (Jvm.Cond.static ({ cls := "NeedMachine$Text", name := "partsOf", desc := "(C)I" } : Jvm.MethodName)) ∈ zm_tb := zm_memT2 101 rfl
theorem zw_342 : (Jvm.Cond.code ({ cls := "NeedMachine$Text", name := "partsOf", desc := "(C)I" } : Jvm.MethodName) prog_7_method_17_code (1 : Nat) (Option.some Jvm.ClassFile.FieldType.int)) ∈ zm_tb := zm_memT2 102 rfl
theorem zw_343 : (Jvm.Cond.methodLink "NeedMachine$Text" (106 : Nat) ({ cls := "NeedMachine$Text", name := "isLeaf", desc := "(C)Z" } : Jvm.MethodName)) ∈ zm_tb := zm_memT2 103 rfl
theorem zw_345 : (Jvm.Cond.instanceMethod ({ cls := "NeedMachine$Text", name := "isLeaf", desc := "(C)Z" } : Jvm.MethodName)) ∈ zm_tb := zm_memT2 105 rfl
theorem zw_346 : (Jvm.Cond.code ({ cls := "NeedMachine$Text", name := "isLeaf", desc := "(C)Z" } : Jvm.MethodName) prog_7_method_12_code (2 : Nat) (Option.some Jvm.ClassFile.FieldType.boolean)) ∈ zm_tb := zm_memT2 106 rfl
theorem zw_347 : (Jvm.Cond.methodLink "NeedMachine$Text" (100 : Nat) ({ cls := "NeedMachine$Text", name := "isDigit", desc := "(C)Z" } : Jvm.MethodName)) ∈ zm_tb := zm_memT2 107 rfl
theorem zw_348 : (Jvm.Cond.static ({ cls := "NeedMachine$Text", name := "isDigit", desc := "(C)Z" } : Jvm.MethodName)) ∈ zm_tb := zm_memT2 108 rfl
theorem zw_349 : (Jvm.Cond.code ({ cls := "NeedMachine$Text", name := "isDigit", desc := "(C)Z" } : Jvm.MethodName) prog_7_method_15_code (1 : Nat) (Option.some Jvm.ClassFile.FieldType.boolean)) ∈ zm_tb := zm_memT2 109 rfl
theorem zw_350 : (Jvm.Cond.methodLink "NeedMachine$Text" (91 : Nat) ({ cls := "NeedMachine$Text", name := "readLeaf", desc := "(C)LNeedMachine$Expression;" } : Jvm.MethodName)) ∈ zm_tb := zm_memT2 110 rfl
theorem zw_352 : (Jvm.Cond.instanceMethod ({ cls := "NeedMachine$Text", name := "readLeaf", desc := "(C)LNeedMachine$Expression;" } : Jvm.MethodName)) ∈ zm_tb := zm_memT2 112 rfl
theorem zw_353 : (Jvm.Cond.code ({ cls := "NeedMachine$Text", name := "readLeaf", desc := "(C)LNeedMachine$Expression;" } : Jvm.MethodName) prog_7_method_10_code (3 : Nat) (Option.some (Jvm.ClassFile.FieldType.object "NeedMachine$Expression"))) ∈ zm_tb := zm_memT2 113 rfl
theorem zw_354 : (Jvm.Cond.classLink "NeedMachine$Text" (95 : Nat) "NeedMachine$Expression") ∈ zm_tb := zm_memT2 114 rfl
theorem zw_355 : (Jvm.Cond.instantiable "NeedMachine$Expression" (5 : Nat)) ∈ zm_tb := zm_memT2 115 rfl
theorem zw_356 : (Jvm.Cond.methodLink "NeedMachine$Text" (97 : Nat) ({ cls := "NeedMachine$Expression", name := "<init>", desc := "(CILNeedMachine$Expression;LNeedMachine$Expression;LNeedMachine$Expression;)V" } : Jvm.MethodName)) ∈ zm_tb := zm_memT2 116 rfl
theorem zw_357 : (Jvm.Cond.instanceMethod ({ cls := "NeedMachine$Expression", name := "<init>", desc := "(CILNeedMachine$Expression;LNeedMachine$Expression;LNeedMachine$Expression;)V" } : Jvm.MethodName)) ∈ zm_tb := zm_memT2 117 rfl
theorem zw_358 : (Jvm.Cond.code ({ cls := "NeedMachine$Expression", name := "<init>", desc := "(CILNeedMachine$Expression;LNeedMachine$Expression;LNeedMachine$Expression;)V" } : Jvm.MethodName) prog_5_method_1_code (6 : Nat) (Option.none : Option Jvm.ClassFile.FieldType)) ∈ zm_tb := zm_memT2 118 rfl
theorem zw_359 : (Jvm.Cond.methodLink "NeedMachine$Expression" (1 : Nat) ({ cls := "java/lang/Object", name := "<init>", desc := "()V" } : Jvm.MethodName)) ∈ zm_tb := zm_memT2 119 rfl
theorem zw_360 : (Jvm.Cond.fieldLink "NeedMachine$Expression" (7 : Nat) "NeedMachine$Expression" "sign" "C") ∈ zm_tb := zm_memT2 120 rfl
theorem zw_361 : (Jvm.Cond.fieldLink "NeedMachine" (139 : Nat) "NeedMachine$Expression" "sign" "C") ∈ zm_tb := zm_memT2 121 rfl
theorem zw_362 : (Jvm.Cond.fieldLink "NeedMachine$Expression" (13 : Nat) "NeedMachine$Expression" "index" "I") ∈ zm_tb := zm_memT2 122 rfl
theorem zw_363 : (Jvm.Cond.fieldLink "NeedMachine" (145 : Nat) "NeedMachine$Expression" "index" "I") ∈ zm_tb := zm_memT2 123 rfl
theorem zw_364 : (Jvm.Cond.fieldLink "NeedMachine$Expression" (17 : Nat) "NeedMachine$Expression" "first" "LNeedMachine$Expression;") ∈ zm_tb := zm_memT2 124 rfl
theorem zw_365 : (Jvm.Cond.fieldLink "NeedMachine" (163 : Nat) "NeedMachine$Expression" "first" "LNeedMachine$Expression;") ∈ zm_tb := zm_memT2 125 rfl
theorem zw_366 : (Jvm.Cond.fieldLink "NeedMachine$Expression" (21 : Nat) "NeedMachine$Expression" "second" "LNeedMachine$Expression;") ∈ zm_tb := zm_memT2 126 rfl
theorem zw_367 : (Jvm.Cond.fieldLink "NeedMachine" (171 : Nat) "NeedMachine$Expression" "second" "LNeedMachine$Expression;") ∈ zm_tb := zm_memT2 127 rfl
theorem zw_368 : (Jvm.Cond.fieldLink "NeedMachine$Expression" (24 : Nat) "NeedMachine$Expression" "third" "LNeedMachine$Expression;") ∈ zm_tb := zm_memT2 128 rfl
theorem zw_369 : (Jvm.Cond.fieldLink "NeedMachine" (224 : Nat) "NeedMachine$Expression" "third" "LNeedMachine$Expression;") ∈ zm_tb := zm_memT2 129 rfl
theorem zw_381 : (Jvm.Cond.methodLink "NeedMachine$Text" (70 : Nat) ({ cls := "NeedMachine$Definition", name := "<init>", desc := "(IILNeedMachine$Expression;)V" } : Jvm.MethodName)) ∈ zm_tb := zm_memT2 141 rfl
theorem zw_382 : (Jvm.Cond.instanceMethod ({ cls := "NeedMachine$Definition", name := "<init>", desc := "(IILNeedMachine$Expression;)V" } : Jvm.MethodName)) ∈ zm_tb := zm_memT2 142 rfl
theorem zw_383 : (Jvm.Cond.code ({ cls := "NeedMachine$Definition", name := "<init>", desc := "(IILNeedMachine$Expression;)V" } : Jvm.MethodName) prog_4_method_1_code (4 : Nat) (Option.none : Option Jvm.ClassFile.FieldType)) ∈ zm_tb := zm_memT2 143 rfl
theorem zw_384 : (Jvm.Cond.methodLink "NeedMachine$Definition" (1 : Nat) ({ cls := "java/lang/Object", name := "<init>", desc := "()V" } : Jvm.MethodName)) ∈ zm_tb := zm_memT2 144 rfl
theorem zw_385 : (Jvm.Cond.fieldLink "NeedMachine$Definition" (7 : Nat) "NeedMachine$Definition" "name" "I") ∈ zm_tb := zm_memT2 145 rfl
theorem zw_386 : (Jvm.Cond.fieldLink "NeedMachine" (37 : Nat) "NeedMachine$Definition" "name" "I") ∈ zm_tb := zm_memT2 146 rfl
theorem zw_387 : (Jvm.Cond.fieldLink "NeedMachine$Definition" (13 : Nat) "NeedMachine$Definition" "parameters" "I") ∈ zm_tb := zm_memT2 147 rfl
theorem zw_388 : (Jvm.Cond.fieldLink "NeedMachine" (41 : Nat) "NeedMachine$Definition" "parameters" "I") ∈ zm_tb := zm_memT2 148 rfl
theorem zw_389 : (Jvm.Cond.fieldLink "NeedMachine$Definition" (16 : Nat) "NeedMachine$Definition" "body" "LNeedMachine$Expression;") ∈ zm_tb := zm_memT2 149 rfl
theorem zw_390 : (Jvm.Cond.fieldLink "NeedMachine" (221 : Nat) "NeedMachine$Definition" "body" "LNeedMachine$Expression;") ∈ zm_tb := zm_memT2 150 rfl
theorem zw_398 : (Jvm.Cond.methodLink "NeedMachineLaw" (59 : Nat) ({ cls := "NeedMachineLaw", name := "ask", desc := "(LNeedMachine;[J)I" } : Jvm.MethodName)) ∈ zm_tb := zm_memT2 158 rfl
theorem zw_399 : (Jvm.Cond.static ({ cls := "NeedMachineLaw", name := "ask", desc := "(LNeedMachine;[J)I" } : Jvm.MethodName)) ∈ zm_tb := zm_memT2 159 rfl
theorem zw_400 : (Jvm.Cond.codeWith ({ cls := "NeedMachineLaw", name := "ask", desc := "(LNeedMachine;[J)I" } : Jvm.MethodName) method_5_code (3 : Nat) (Option.some Jvm.ClassFile.FieldType.int) [((0 : Nat), (8 : Nat), (11 : Nat), (13 : Nat)), ((0 : Nat), (8 : Nat), (14 : Nat), (24 : Nat)), ((0 : Nat), (8 : Nat), (17 : Nat), (26 : Nat)), ((0 : Nat), (8 : Nat), (20 : Nat), (15 : Nat)), ((0 : Nat), (8 : Nat), (23 : Nat), (28 : Nat))]) ∈ zm_tb := zm_memT2 160 rfl
theorem zw_401 : (Jvm.Cond.classLink "NeedMachineLaw" (24 : Nat) "java/util/NoSuchElementException") ∈ zm_tb := zm_memT2 161 rfl
theorem zw_402 : (Jvm.Cond.classLink "NeedMachineLaw" (26 : Nat) "java/lang/ArithmeticException") ∈ zm_tb := zm_memT2 162 rfl
theorem zw_403 : (Jvm.Cond.classLink "NeedMachineLaw" (28 : Nat) "java/lang/UnsupportedOperationException") ∈ zm_tb := zm_memT2 163 rfl
theorem zw_404 : (Jvm.Cond.methodLink "NeedMachineLaw" (21 : Nat) ({ cls := "NeedMachine", name := "ask", desc := "()I" } : Jvm.MethodName)) ∈ zm_tb := zm_memT2 164 rfl
theorem zw_405 : (Jvm.Cond.instanceMethod ({ cls := "NeedMachine", name := "ask", desc := "()I" } : Jvm.MethodName)) ∈ zm_tb := zm_memT2 165 rfl
theorem zw_406 : (Jvm.Cond.selects "NeedMachine" ({ cls := "NeedMachine", name := "ask", desc := "()I" } : Jvm.MethodName) ({ cls := "NeedMachine", name := "ask", desc := "()I" } : Jvm.MethodName)) ∈ zm_tb := zm_memT2 166 rfl
theorem zw_407 : (Jvm.Cond.code ({ cls := "NeedMachine", name := "ask", desc := "()I" } : Jvm.MethodName) prog_1_method_4_code (2 : Nat) (Option.some Jvm.ClassFile.FieldType.int)) ∈ zm_tb := zm_memT2 167 rfl
theorem zw_408 : (Jvm.Cond.methodLink "NeedMachine" (44 : Nat) ({ cls := "NeedMachine$Text", name := "readAsked", desc := "()LNeedMachine$Expression;" } : Jvm.MethodName)) ∈ zm_tb := zm_memT2 168 rfl
theorem zw_409 : (Jvm.Cond.instanceMethod ({ cls := "NeedMachine$Text", name := "readAsked", desc := "()LNeedMachine$Expression;" } : Jvm.MethodName)) ∈ zm_tb := zm_memT2 169 rfl
theorem zw_410 : (Jvm.Cond.selects "NeedMachine$Text" ({ cls := "NeedMachine$Text", name := "readAsked", desc := "()LNeedMachine$Expression;" } : Jvm.MethodName) ({ cls := "NeedMachine$Text", name := "readAsked", desc := "()LNeedMachine$Expression;" } : Jvm.MethodName)) ∈ zm_tb := zm_memT2 170 rfl
theorem zw_411 : (Jvm.Cond.code ({ cls := "NeedMachine$Text", name := "readAsked", desc := "()LNeedMachine$Expression;" } : Jvm.MethodName) prog_7_method_5_code (1 : Nat) (Option.some (Jvm.ClassFile.FieldType.object "NeedMachine$Expression"))) ∈ zm_tb := zm_memT2 171 rfl
theorem zw_412 : (Jvm.Cond.methodLink "NeedMachine" (52 : Nat) ({ cls := "NeedMachine$Store", name := "takeAllBack", desc := "()V" } : Jvm.MethodName)) ∈ zm_tb := zm_memT2 172 rfl
theorem zw_413 : (Jvm.Cond.instanceMethod ({ cls := "NeedMachine$Store", name := "takeAllBack", desc := "()V" } : Jvm.MethodName)) ∈ zm_tb := zm_memT2 173 rfl
theorem zw_414 : (Jvm.Cond.selects "NeedMachine$Store" ({ cls := "NeedMachine$Store", name := "takeAllBack", desc := "()V" } : Jvm.MethodName) ({ cls := "NeedMachine$Store", name := "takeAllBack", desc := "()V" } : Jvm.MethodName)) ∈ zm_tb := zm_memT2 174 rfl
theorem zw_415 : (Jvm.Cond.code ({ cls := "NeedMachine$Store", name := "takeAllBack", desc := "()V" } : Jvm.MethodName) prog_6_method_2_code (1 : Nat) (Option.none : Option Jvm.ClassFile.FieldType)) ∈ zm_tb := zm_memT2 175 rfl
theorem zw_416 : (Jvm.Cond.methodLink "NeedMachine" (61 : Nat) ({ cls := "NeedMachine", name := "work", desc := "(LNeedMachine$Expression;LNeedMachine$Arguments;I)LNeedMachine$Value;" } : Jvm.MethodName)) ∈ zm_tb := zm_memT2 176 rfl
theorem zw_418 : (Jvm.Cond.instanceMethod ({ cls := "NeedMachine", name := "work", desc := "(LNeedMachine$Expression;LNeedMachine$Arguments;I)LNeedMachine$Value;" } : Jvm.MethodName)) ∈ zm_tb := zm_memT2 178 rfl
theorem zw_419 : (Jvm.Cond.code ({ cls := "NeedMachine", name := "work", desc := "(LNeedMachine$Expression;LNeedMachine$Arguments;I)LNeedMachine$Value;" } : Jvm.MethodName) prog_1_method_12_code (4 : Nat) (Option.some (Jvm.ClassFile.FieldType.object "NeedMachine$Value"))) ∈ zm_tb := zm_memT2 179 rfl
theorem zw_420 : (Jvm.Cond.classLink "NeedMachine" (128 : Nat) "java/lang/IllegalStateException") ∈ zm_tb := zm_memT2 180 rfl
theorem zw_421 : (Jvm.Cond.stringRef "NeedMachine" (130 : Nat) "working out stands too deep") ∈ zm_tb := zm_memT2 181 rfl
theorem zw_422 : (Jvm.Cond.methodLink "NeedMachine" (132 : Nat) ({ cls := "java/lang/IllegalStateException", name := "<init>", desc := "(Ljava/lang/String;)V" } : Jvm.MethodName)) ∈ zm_tb := zm_memT2 182 rfl
theorem zw_423 : (Jvm.Cond.methodLink "NeedMachine" (133 : Nat) ({ cls := "java/lang/Math", name := "max", desc := "(II)I" } : Jvm.MethodName)) ∈ zm_tb := zm_memT2 183 rfl
theorem zw_424 : (Jvm.Cond.static ({ cls := "java/lang/Math", name := "max", desc := "(II)I" } : Jvm.MethodName)) ∈ zm_tb := zm_memT2 184 rfl
theorem zw_425 : (Jvm.Cond.code ({ cls := "java/lang/Math", name := "max", desc := "(II)I" } : Jvm.MethodName) prog_18_method_65_code (2 : Nat) (Option.some Jvm.ClassFile.FieldType.int)) ∈ zm_tb := zm_memT2 185 rfl
theorem zw_426 : (Jvm.Cond.methodLink "NeedMachine" (148 : Nat) ({ cls := "NeedMachine$Store", name := "makeNumber", desc := "(I)LNeedMachine$Value;" } : Jvm.MethodName)) ∈ zm_tb := zm_memT2 186 rfl
theorem zw_427 : (Jvm.Cond.instanceMethod ({ cls := "NeedMachine$Store", name := "makeNumber", desc := "(I)LNeedMachine$Value;" } : Jvm.MethodName)) ∈ zm_tb := zm_memT2 187 rfl
theorem zw_428 : (Jvm.Cond.selects "NeedMachine$Store" ({ cls := "NeedMachine$Store", name := "makeNumber", desc := "(I)LNeedMachine$Value;" } : Jvm.MethodName) ({ cls := "NeedMachine$Store", name := "makeNumber", desc := "(I)LNeedMachine$Value;" } : Jvm.MethodName)) ∈ zm_tb := zm_memT2 188 rfl
theorem zw_429 : (Jvm.Cond.code ({ cls := "NeedMachine$Store", name := "makeNumber", desc := "(I)LNeedMachine$Value;" } : Jvm.MethodName) prog_6_method_3_code (3 : Nat) (Option.some (Jvm.ClassFile.FieldType.object "NeedMachine$Value"))) ∈ zm_tb := zm_memT2 189 rfl
theorem zw_430 : (Jvm.Cond.methodLink "NeedMachine$Store" (44 : Nat) ({ cls := "NeedMachine$Store", name := "nextValue", desc := "(I)LNeedMachine$Value;" } : Jvm.MethodName)) ∈ zm_tb := zm_memT2 190 rfl
theorem zw_432 : (Jvm.Cond.instanceMethod ({ cls := "NeedMachine$Store", name := "nextValue", desc := "(I)LNeedMachine$Value;" } : Jvm.MethodName)) ∈ zm_tb := zm_memT2 192 rfl
theorem zw_433 : (Jvm.Cond.code ({ cls := "NeedMachine$Store", name := "nextValue", desc := "(I)LNeedMachine$Value;" } : Jvm.MethodName) prog_6_method_8_code (3 : Nat) (Option.some (Jvm.ClassFile.FieldType.object "NeedMachine$Value"))) ∈ zm_tb := zm_memT2 193 rfl
theorem zw_434 : (Jvm.Cond.methodLink "NeedMachine$Store" (62 : Nat) ({ cls := "java/util/ArrayList", name := "size", desc := "()I" } : Jvm.MethodName)) ∈ zm_tb := zm_memT2 194 rfl
theorem zw_435 : (Jvm.Cond.instanceMethod ({ cls := "java/util/ArrayList", name := "size", desc := "()I" } : Jvm.MethodName)) ∈ zm_tb := zm_memT2 195 rfl
theorem zw_436 : (Jvm.Cond.selects "java/util/ArrayList" ({ cls := "java/util/ArrayList", name := "size", desc := "()I" } : Jvm.MethodName) ({ cls := "java/util/ArrayList", name := "size", desc := "()I" } : Jvm.MethodName)) ∈ zm_tb := zm_memT2 196 rfl
theorem zw_437 : (Jvm.Cond.code ({ cls := "java/util/ArrayList", name := "size", desc := "()I" } : Jvm.MethodName) prog_26_method_8_code (1 : Nat) (Option.some Jvm.ClassFile.FieldType.int)) ∈ zm_tb := zm_memT2 197 rfl
theorem zw_438 : (Jvm.Cond.methodLink "NeedMachine$Store" (69 : Nat) ({ cls := "java/util/ArrayList", name := "add", desc := "(Ljava/lang/Object;)Z" } : Jvm.MethodName)) ∈ zm_tb := zm_memT2 198 rfl
theorem zw_439 : (Jvm.Cond.instanceMethod ({ cls := "java/util/ArrayList", name := "add", desc := "(Ljava/lang/Object;)Z" } : Jvm.MethodName)) ∈ zm_tb := zm_memT2 199 rfl
theorem zw_440 : (Jvm.Cond.selects "java/util/ArrayList" ({ cls := "java/util/ArrayList", name := "add", desc := "(Ljava/lang/Object;)Z" } : Jvm.MethodName) ({ cls := "java/util/ArrayList", name := "add", desc := "(Ljava/lang/Object;)Z" } : Jvm.MethodName)) ∈ zm_tb := zm_memT2 200 rfl
theorem zw_441 : (Jvm.Cond.code ({ cls := "java/util/ArrayList", name := "add", desc := "(Ljava/lang/Object;)Z" } : Jvm.MethodName) prog_26_method_25_code (2 : Nat) (Option.some Jvm.ClassFile.FieldType.boolean)) ∈ zm_tb := zm_memT2 201 rfl
theorem zw_442 : (Jvm.Cond.methodLink "java/util/ArrayList" (131 : Nat) ({ cls := "java/util/ArrayList", name := "add", desc := "(Ljava/lang/Object;[Ljava/lang/Object;I)V" } : Jvm.MethodName)) ∈ zm_tb := zm_memT2 202 rfl
theorem zw_444 : (Jvm.Cond.instanceMethod ({ cls := "java/util/ArrayList", name := "add", desc := "(Ljava/lang/Object;[Ljava/lang/Object;I)V" } : Jvm.MethodName)) ∈ zm_tb := zm_memT2 204 rfl
theorem zw_445 : (Jvm.Cond.code ({ cls := "java/util/ArrayList", name := "add", desc := "(Ljava/lang/Object;[Ljava/lang/Object;I)V" } : Jvm.MethodName) prog_26_method_24_code (4 : Nat) (Option.none : Option Jvm.ClassFile.FieldType)) ∈ zm_tb := zm_memT2 205 rfl
theorem zw_446 : (Jvm.Cond.methodLink "java/util/ArrayList" (129 : Nat) ({ cls := "java/util/ArrayList", name := "grow", desc := "()[Ljava/lang/Object;" } : Jvm.MethodName)) ∈ zm_tb := zm_memT2 206 rfl
theorem zw_448 : (Jvm.Cond.instanceMethod ({ cls := "java/util/ArrayList", name := "grow", desc := "()[Ljava/lang/Object;" } : Jvm.MethodName)) ∈ zm_tb := zm_memT2 208 rfl
theorem zw_449 : (Jvm.Cond.code ({ cls := "java/util/ArrayList", name := "grow", desc := "()[Ljava/lang/Object;" } : Jvm.MethodName) prog_26_method_7_code (1 : Nat) (Option.some (Jvm.ClassFile.FieldType.array (Jvm.ClassFile.FieldType.object "java/lang/Object")))) ∈ zm_tb := zm_memT2 209 rfl
theorem zw_450 : (Jvm.Cond.methodLink "java/util/ArrayList" (69 : Nat) ({ cls := "java/util/ArrayList", name := "grow", desc := "(I)[Ljava/lang/Object;" } : Jvm.MethodName)) ∈ zm_tb := zm_memT2 210 rfl
theorem zw_452 : (Jvm.Cond.instanceMethod ({ cls := "java/util/ArrayList", name := "grow", desc := "(I)[Ljava/lang/Object;" } : Jvm.MethodName)) ∈ zm_tb := zm_memT2 212 rfl
theorem zw_453 : (Jvm.Cond.code ({ cls := "java/util/ArrayList", name := "grow", desc := "(I)[Ljava/lang/Object;" } : Jvm.MethodName) prog_26_method_6_code (4 : Nat) (Option.some (Jvm.ClassFile.FieldType.array (Jvm.ClassFile.FieldType.object "java/lang/Object")))) ∈ zm_tb := zm_memT2 213 rfl
theorem zw_454 : (Jvm.Cond.methodLink "java/util/ArrayList" (73 : Nat) ({ cls := "jdk/internal/util/ArraysSupport", name := "newLength", desc := "(III)I" } : Jvm.MethodName)) ∈ zm_tb := zm_memT2 214 rfl
theorem zw_455 : (Jvm.Cond.static ({ cls := "jdk/internal/util/ArraysSupport", name := "newLength", desc := "(III)I" } : Jvm.MethodName)) ∈ zm_tb := zm_memT2 215 rfl
theorem zw_456 : (Jvm.Cond.code ({ cls := "jdk/internal/util/ArraysSupport", name := "newLength", desc := "(III)I" } : Jvm.MethodName) prog_34_method_27_code (4 : Nat) (Option.some Jvm.ClassFile.FieldType.int)) ∈ zm_tb := zm_memT2 216 rfl
theorem zw_457 : (Jvm.Cond.methodLink "jdk/internal/util/ArraysSupport" (194 : Nat) ({ cls := "java/lang/Math", name := "max", desc := "(II)I" } : Jvm.MethodName)) ∈ zm_tb := zm_memT2 217 rfl
theorem zw_458 : (Jvm.Cond.constant "jdk/internal/util/ArraysSupport" (200 : Nat) (2147483639 : Int32)) ∈ zm_tb := zm_memT2 218 rfl
theorem zw_462 : (Jvm.Cond.methodLink "java/util/ArrayList" (66 : Nat) ({ cls := "java/util/Arrays", name := "copyOf", desc := "([Ljava/lang/Object;I)[Ljava/lang/Object;" } : Jvm.MethodName)) ∈ zm_tb := zm_memT2 222 rfl
theorem zw_463 : (Jvm.Cond.static ({ cls := "java/util/Arrays", name := "copyOf", desc := "([Ljava/lang/Object;I)[Ljava/lang/Object;" } : Jvm.MethodName)) ∈ zm_tb := zm_memT2 223 rfl
theorem zw_464 : (Jvm.Cond.code ({ cls := "java/util/Arrays", name := "copyOf", desc := "([Ljava/lang/Object;I)[Ljava/lang/Object;" } : Jvm.MethodName) prog_27_method_119_code (2 : Nat) (Option.some (Jvm.ClassFile.FieldType.array (Jvm.ClassFile.FieldType.object "java/lang/Object")))) ∈ zm_tb := zm_memT2 224 rfl
theorem zw_465 : (Jvm.Cond.methodLink "java/util/Arrays" (86 : Nat) ({ cls := "java/lang/Object", name := "getClass", desc := "()Ljava/lang/Class;" } : Jvm.MethodName)) ∈ zm_tb := zm_memT2 225 rfl
theorem zw_466 : (Jvm.Cond.instanceMethod ({ cls := "java/lang/Object", name := "getClass", desc := "()Ljava/lang/Class;" } : Jvm.MethodName)) ∈ zm_tb := zm_memT2 226 rfl
theorem zw_483 : (Jvm.Cond.native ({ cls := "java/lang/Object", name := "getClass", desc := "()Ljava/lang/Class;" } : Jvm.MethodName)) ∈ zm_tb := zm_memT3 3 rfl
theorem zw_484 : (Jvm.Cond.methodLink "java/util/Arrays" (300 : Nat) ({ cls := "java/util/Arrays", name := "copyOf", desc := "([Ljava/lang/Object;ILjava/lang/Class;)[Ljava/lang/Object;" } : Jvm.MethodName)) ∈ zm_tb := zm_memT3 4 rfl
theorem zw_485 : (Jvm.Cond.static ({ cls := "java/util/Arrays", name := "copyOf", desc := "([Ljava/lang/Object;ILjava/lang/Class;)[Ljava/lang/Object;" } : Jvm.MethodName)) ∈ zm_tb := zm_memT3 5 rfl
theorem zw_486 : (Jvm.Cond.code ({ cls := "java/util/Arrays", name := "copyOf", desc := "([Ljava/lang/Object;ILjava/lang/Class;)[Ljava/lang/Object;" } : Jvm.MethodName) prog_27_method_120_code (4 : Nat) (Option.some (Jvm.ClassFile.FieldType.array (Jvm.ClassFile.FieldType.object "java/lang/Object")))) ∈ zm_tb := zm_memT3 6 rfl
theorem zw_487 : (Jvm.Cond.classLink "java/util/Arrays" (110 : Nat) "[Ljava/lang/Object;") ∈ zm_tb := zm_memT3 7 rfl
theorem zw_488 : (Jvm.Cond.arrayOver (Jvm.ClassFile.FieldType.object "java/lang/Object")) ∈ zm_tb := zm_memT3 8 rfl
theorem zw_489 : (Jvm.Cond.classLink "java/util/Arrays" (2 : Nat) "java/lang/Object") ∈ zm_tb := zm_memT3 9 rfl
theorem zw_490 : (Jvm.Cond.methodLink "java/util/Arrays" (304 : Nat) ({ cls := "java/lang/Math", name := "min", desc := "(II)I" } : Jvm.MethodName)) ∈ zm_tb := zm_memT3 10 rfl
theorem zw_491 : (Jvm.Cond.static ({ cls := "java/lang/Math", name := "min", desc := "(II)I" } : Jvm.MethodName)) ∈ zm_tb := zm_memT3 11 rfl
theorem zw_492 : (Jvm.Cond.code ({ cls := "java/lang/Math", name := "min", desc := "(II)I" } : Jvm.MethodName) prog_18_method_69_code (2 : Nat) (Option.some Jvm.ClassFile.FieldType.int)) ∈ zm_tb := zm_memT3 12 rfl
theorem zw_493 : (Jvm.Cond.methodLink "java/util/Arrays" (150 : Nat) ({ cls := "java/lang/System", name := "arraycopy", desc := "(Ljava/lang/Object;ILjava/lang/Object;II)V" } : Jvm.MethodName)) ∈ zm_tb := zm_memT3 13 rfl
theorem zw_494 : (Jvm.Cond.static ({ cls := "java/lang/System", name := "arraycopy", desc := "(Ljava/lang/Object;ILjava/lang/Object;II)V" } : Jvm.MethodName)) ∈ zm_tb := zm_memT3 14 rfl
theorem zw_495 : (Jvm.Cond.native ({ cls := "java/lang/System", name := "arraycopy", desc := "(Ljava/lang/Object;ILjava/lang/Object;II)V" } : Jvm.MethodName)) ∈ zm_tb := zm_memT3 15 rfl
theorem zw_496 : (Jvm.Cond.methodLink "java/util/ArrayList" (79 : Nat) ({ cls := "java/lang/Math", name := "max", desc := "(II)I" } : Jvm.MethodName)) ∈ zm_tb := zm_memT3 16 rfl
theorem zw_497 : (Jvm.Cond.classLink "java/util/ArrayList" (7 : Nat) "java/lang/Object") ∈ zm_tb := zm_memT3 17 rfl
theorem zw_498 : (Jvm.Cond.methodLink "NeedMachine$Store" (73 : Nat) ({ cls := "java/util/ArrayList", name := "get", desc := "(I)Ljava/lang/Object;" } : Jvm.MethodName)) ∈ zm_tb := zm_memT3 18 rfl
theorem zw_499 : (Jvm.Cond.instanceMethod ({ cls := "java/util/ArrayList", name := "get", desc := "(I)Ljava/lang/Object;" } : Jvm.MethodName)) ∈ zm_tb := zm_memT3 19 rfl
theorem zw_500 : (Jvm.Cond.selects "java/util/ArrayList" ({ cls := "java/util/ArrayList", name := "get", desc := "(I)Ljava/lang/Object;" } : Jvm.MethodName) ({ cls := "java/util/ArrayList", name := "get", desc := "(I)Ljava/lang/Object;" } : Jvm.MethodName)) ∈ zm_tb := zm_memT3 20 rfl
theorem zw_501 : (Jvm.Cond.code ({ cls := "java/util/ArrayList", name := "get", desc := "(I)Ljava/lang/Object;" } : Jvm.MethodName) prog_26_method_20_code (2 : Nat) (Option.some (Jvm.ClassFile.FieldType.object "java/lang/Object"))) ∈ zm_tb := zm_memT3 21 rfl
theorem zw_502 : (Jvm.Cond.methodLink "java/util/ArrayList" (118 : Nat) ({ cls := "java/util/Objects", name := "checkIndex", desc := "(II)I" } : Jvm.MethodName)) ∈ zm_tb := zm_memT3 22 rfl
theorem zw_503 : (Jvm.Cond.static ({ cls := "java/util/Objects", name := "checkIndex", desc := "(II)I" } : Jvm.MethodName)) ∈ zm_tb := zm_memT3 23 rfl
theorem zw_504 : (Jvm.Cond.code ({ cls := "java/util/Objects", name := "checkIndex", desc := "(II)I" } : Jvm.MethodName) prog_31_method_17_code (2 : Nat) (Option.some Jvm.ClassFile.FieldType.int)) ∈ zm_tb := zm_memT3 24 rfl
theorem zw_505 : (Jvm.Cond.methodLink "java/util/Objects" (105 : Nat) ({ cls := "jdk/internal/util/Preconditions", name := "checkIndex", desc := "(IILjava/util/function/BiFunction;)I" } : Jvm.MethodName)) ∈ zm_tb := zm_memT3 25 rfl
theorem zw_506 : (Jvm.Cond.static ({ cls := "jdk/internal/util/Preconditions", name := "checkIndex", desc := "(IILjava/util/function/BiFunction;)I" } : Jvm.MethodName)) ∈ zm_tb := zm_memT3 26 rfl
theorem zw_507 : (Jvm.Cond.code ({ cls := "jdk/internal/util/Preconditions", name := "checkIndex", desc := "(IILjava/util/function/BiFunction;)I" } : Jvm.MethodName) prog_35_method_11_code (3 : Nat) (Option.some Jvm.ClassFile.FieldType.int)) ∈ zm_tb := zm_memT3 27 rfl
theorem zw_508 : (Jvm.Cond.methodLink "java/util/ArrayList" (123 : Nat) ({ cls := "java/util/ArrayList", name := "elementData", desc := "(I)Ljava/lang/Object;" } : Jvm.MethodName)) ∈ zm_tb := zm_memT3 28 rfl
theorem zw_509 : (Jvm.Cond.instanceMethod ({ cls := "java/util/ArrayList", name := "elementData", desc := "(I)Ljava/lang/Object;" } : Jvm.MethodName)) ∈ zm_tb := zm_memT3 29 rfl
theorem zw_510 : (Jvm.Cond.selects "java/util/ArrayList" ({ cls := "java/util/ArrayList", name := "elementData", desc := "(I)Ljava/lang/Object;" } : Jvm.MethodName) ({ cls := "java/util/ArrayList", name := "elementData", desc := "(I)Ljava/lang/Object;" } : Jvm.MethodName)) ∈ zm_tb := zm_memT3 30 rfl
theorem zw_511 : (Jvm.Cond.code ({ cls := "java/util/ArrayList", name := "elementData", desc := "(I)Ljava/lang/Object;" } : Jvm.MethodName) prog_26_method_18_code (2 : Nat) (Option.some (Jvm.ClassFile.FieldType.object "java/lang/Object"))) ∈ zm_tb := zm_memT3 31 rfl
theorem zw_512 : (Jvm.Cond.methodLink "NeedMachine" (155 : Nat) ({ cls := "NeedMachine", name := "argumentAt", desc := "(LNeedMachine$Arguments;I)LNeedMachine$Closure;" } : Jvm.MethodName)) ∈ zm_tb := zm_memT3 32 rfl
theorem zw_513 : (Jvm.Cond.static ({ cls := "NeedMachine", name := "argumentAt", desc := "(LNeedMachine$Arguments;I)LNeedMachine$Closure;" } : Jvm.MethodName)) ∈ zm_tb := zm_memT3 33 rfl
theorem zw_514 : (Jvm.Cond.code ({ cls := "NeedMachine", name := "argumentAt", desc := "(LNeedMachine$Arguments;I)LNeedMachine$Closure;" } : Jvm.MethodName) prog_1_method_22_code (3 : Nat) (Option.some (Jvm.ClassFile.FieldType.object "NeedMachine$Closure"))) ∈ zm_tb := zm_memT3 34 rfl
theorem zw_515 : (Jvm.Cond.stringRef "NeedMachine" (265 : Nat) "the parameter has no argument") ∈ zm_tb := zm_memT3 35 rfl
theorem zw_516 : (Jvm.Cond.methodLink "NeedMachine" (89 : Nat) ({ cls := "NeedMachine", name := "force", desc := "(LNeedMachine$Closure;I)LNeedMachine$Value;" } : Jvm.MethodName)) ∈ zm_tb := zm_memT3 36 rfl
theorem zw_518 : (Jvm.Cond.instanceMethod ({ cls := "NeedMachine", name := "force", desc := "(LNeedMachine$Closure;I)LNeedMachine$Value;" } : Jvm.MethodName)) ∈ zm_tb := zm_memT3 38 rfl
theorem zw_519 : (Jvm.Cond.code ({ cls := "NeedMachine", name := "force", desc := "(LNeedMachine$Closure;I)LNeedMachine$Value;" } : Jvm.MethodName) prog_1_method_19_code (4 : Nat) (Option.some (Jvm.ClassFile.FieldType.object "NeedMachine$Value"))) ∈ zm_tb := zm_memT3 39 rfl
theorem zw_520 : (Jvm.Cond.methodLink "NeedMachine" (241 : Nat) ({ cls := "NeedMachine", name := "mustBeWorkedOut", desc := "(LNeedMachine$Closure;)LNeedMachine$Value;" } : Jvm.MethodName)) ∈ zm_tb := zm_memT3 40 rfl
theorem zw_521 : (Jvm.Cond.static ({ cls := "NeedMachine", name := "mustBeWorkedOut", desc := "(LNeedMachine$Closure;)LNeedMachine$Value;" } : Jvm.MethodName)) ∈ zm_tb := zm_memT3 41 rfl
theorem zw_522 : (Jvm.Cond.code ({ cls := "NeedMachine", name := "mustBeWorkedOut", desc := "(LNeedMachine$Closure;)LNeedMachine$Value;" } : Jvm.MethodName) prog_1_method_23_code (1 : Nat) (Option.some (Jvm.ClassFile.FieldType.object "NeedMachine$Value"))) ∈ zm_tb := zm_memT3 42 rfl
theorem zw_523 : (Jvm.Cond.stringRef "NeedMachine" (267 : Nat) "the closure needs itself") ∈ zm_tb := zm_memT3 43 rfl
theorem zw_524 : (Jvm.Cond.methodLink "NeedMachine" (159 : Nat) ({ cls := "NeedMachine", name := "workName", desc := "(II)LNeedMachine$Value;" } : Jvm.MethodName)) ∈ zm_tb := zm_memT3 44 rfl
theorem zw_526 : (Jvm.Cond.instanceMethod ({ cls := "NeedMachine", name := "workName", desc := "(II)LNeedMachine$Value;" } : Jvm.MethodName)) ∈ zm_tb := zm_memT3 46 rfl
theorem zw_527 : (Jvm.Cond.code ({ cls := "NeedMachine", name := "workName", desc := "(II)LNeedMachine$Value;" } : Jvm.MethodName) prog_1_method_13_code (4 : Nat) (Option.some (Jvm.ClassFile.FieldType.object "NeedMachine$Value"))) ∈ zm_tb := zm_memT3 47 rfl
theorem zw_528 : (Jvm.Cond.methodLink "NeedMachine" (101 : Nat) ({ cls := "NeedMachine", name := "definitionOf", desc := "(I)LNeedMachine$Definition;" } : Jvm.MethodName)) ∈ zm_tb := zm_memT3 48 rfl
theorem zw_530 : (Jvm.Cond.instanceMethod ({ cls := "NeedMachine", name := "definitionOf", desc := "(I)LNeedMachine$Definition;" } : Jvm.MethodName)) ∈ zm_tb := zm_memT3 50 rfl
theorem zw_531 : (Jvm.Cond.code ({ cls := "NeedMachine", name := "definitionOf", desc := "(I)LNeedMachine$Definition;" } : Jvm.MethodName) prog_1_method_21_code (3 : Nat) (Option.some (Jvm.ClassFile.FieldType.object "NeedMachine$Definition"))) ∈ zm_tb := zm_memT3 51 rfl
theorem zw_532 : (Jvm.Cond.classLink "NeedMachine" (70 : Nat) "java/util/NoSuchElementException") ∈ zm_tb := zm_memT3 52 rfl
theorem zw_533 : (Jvm.Cond.instantiable "java/util/NoSuchElementException" (6 : Nat)) ∈ zm_tb := zm_memT3 53 rfl
theorem zw_534 : (Jvm.Cond.castable "java/util/NoSuchElementException" "java/util/NoSuchElementException") ∈ zm_tb := zm_memT3 54 rfl
theorem zw_541 : (Jvm.Cond.stringRef "NeedMachine" (257 : Nat) "the name has no definition") ∈ zm_tb := zm_memT3 61 rfl
theorem zw_542 : (Jvm.Cond.methodLink "NeedMachine" (74 : Nat) ({ cls := "java/util/NoSuchElementException", name := "<init>", desc := "(Ljava/lang/String;)V" } : Jvm.MethodName)) ∈ zm_tb := zm_memT3 62 rfl
theorem zw_548 : (Jvm.Cond.methodLink "NeedMachine" (190 : Nat) ({ cls := "NeedMachine", name := "call", desc := "(LNeedMachine$Definition;LNeedMachine$Arguments;I)LNeedMachine$Value;" } : Jvm.MethodName)) ∈ zm_tb := zm_memT3 68 rfl
theorem zw_550 : (Jvm.Cond.instanceMethod ({ cls := "NeedMachine", name := "call", desc := "(LNeedMachine$Definition;LNeedMachine$Arguments;I)LNeedMachine$Value;" } : Jvm.MethodName)) ∈ zm_tb := zm_memT3 70 rfl
theorem zw_551 : (Jvm.Cond.code ({ cls := "NeedMachine", name := "call", desc := "(LNeedMachine$Definition;LNeedMachine$Arguments;I)LNeedMachine$Value;" } : Jvm.MethodName) prog_1_method_15_code (4 : Nat) (Option.some (Jvm.ClassFile.FieldType.object "NeedMachine$Value"))) ∈ zm_tb := zm_memT3 71 rfl
theorem zw_552 : (Jvm.Cond.stringRef "NeedMachine" (219 : Nat) "too many calls in one asking") ∈ zm_tb := zm_memT3 72 rfl
theorem zw_553 : (Jvm.Cond.methodLink "NeedMachine" (194 : Nat) ({ cls := "NeedMachine$Store", name := "makeFunction", desc := "(ILNeedMachine$Arguments;)LNeedMachine$Value;" } : Jvm.MethodName)) ∈ zm_tb := zm_memT3 73 rfl
theorem zw_554 : (Jvm.Cond.instanceMethod ({ cls := "NeedMachine$Store", name := "makeFunction", desc := "(ILNeedMachine$Arguments;)LNeedMachine$Value;" } : Jvm.MethodName)) ∈ zm_tb := zm_memT3 74 rfl
theorem zw_555 : (Jvm.Cond.selects "NeedMachine$Store" ({ cls := "NeedMachine$Store", name := "makeFunction", desc := "(ILNeedMachine$Arguments;)LNeedMachine$Value;" } : Jvm.MethodName) ({ cls := "NeedMachine$Store", name := "makeFunction", desc := "(ILNeedMachine$Arguments;)LNeedMachine$Value;" } : Jvm.MethodName)) ∈ zm_tb := zm_memT3 75 rfl
theorem zw_556 : (Jvm.Cond.code ({ cls := "NeedMachine$Store", name := "makeFunction", desc := "(ILNeedMachine$Arguments;)LNeedMachine$Value;" } : Jvm.MethodName) prog_6_method_5_code (4 : Nat) (Option.some (Jvm.ClassFile.FieldType.object "NeedMachine$Value"))) ∈ zm_tb := zm_memT3 76 rfl
theorem zw_557 : (Jvm.Cond.methodLink "NeedMachine" (167 : Nat) ({ cls := "NeedMachine", name := "closureOf", desc := "(LNeedMachine$Expression;LNeedMachine$Arguments;)LNeedMachine$Closure;" } : Jvm.MethodName)) ∈ zm_tb := zm_memT3 77 rfl
theorem zw_559 : (Jvm.Cond.instanceMethod ({ cls := "NeedMachine", name := "closureOf", desc := "(LNeedMachine$Expression;LNeedMachine$Arguments;)LNeedMachine$Closure;" } : Jvm.MethodName)) ∈ zm_tb := zm_memT3 79 rfl
theorem zw_560 : (Jvm.Cond.code ({ cls := "NeedMachine", name := "closureOf", desc := "(LNeedMachine$Expression;LNeedMachine$Arguments;)LNeedMachine$Closure;" } : Jvm.MethodName) prog_1_method_20_code (3 : Nat) (Option.some (Jvm.ClassFile.FieldType.object "NeedMachine$Closure"))) ∈ zm_tb := zm_memT3 80 rfl
theorem zw_561 : (Jvm.Cond.methodLink "NeedMachine" (254 : Nat) ({ cls := "NeedMachine$Store", name := "makeClosure", desc := "(LNeedMachine$Expression;LNeedMachine$Arguments;)LNeedMachine$Closure;" } : Jvm.MethodName)) ∈ zm_tb := zm_memT3 81 rfl
theorem zw_562 : (Jvm.Cond.instanceMethod ({ cls := "NeedMachine$Store", name := "makeClosure", desc := "(LNeedMachine$Expression;LNeedMachine$Arguments;)LNeedMachine$Closure;" } : Jvm.MethodName)) ∈ zm_tb := zm_memT3 82 rfl
theorem zw_563 : (Jvm.Cond.selects "NeedMachine$Store" ({ cls := "NeedMachine$Store", name := "makeClosure", desc := "(LNeedMachine$Expression;LNeedMachine$Arguments;)LNeedMachine$Closure;" } : Jvm.MethodName) ({ cls := "NeedMachine$Store", name := "makeClosure", desc := "(LNeedMachine$Expression;LNeedMachine$Arguments;)LNeedMachine$Closure;" } : Jvm.MethodName)) ∈ zm_tb := zm_memT3 83 rfl
theorem zw_564 : (Jvm.Cond.code ({ cls := "NeedMachine$Store", name := "makeClosure", desc := "(LNeedMachine$Expression;LNeedMachine$Arguments;)LNeedMachine$Closure;" } : Jvm.MethodName) prog_6_method_6_code (4 : Nat) (Option.some (Jvm.ClassFile.FieldType.object "NeedMachine$Closure"))) ∈ zm_tb := zm_memT3 84 rfl
theorem zw_565 : (Jvm.Cond.classLink "NeedMachine$Store" (66 : Nat) "NeedMachine$Closure") ∈ zm_tb := zm_memT3 85 rfl
theorem zw_566 : (Jvm.Cond.instantiable "NeedMachine$Closure" (4 : Nat)) ∈ zm_tb := zm_memT3 86 rfl
theorem zw_567 : (Jvm.Cond.methodLinkNest "NeedMachine$Store" (68 : Nat) ({ cls := "NeedMachine$Closure", name := "<init>", desc := "()V" } : Jvm.MethodName) "NeedMachine") ∈ zm_tb := zm_memT3 87 rfl
theorem zw_568 : (Jvm.Cond.instanceMethod ({ cls := "NeedMachine$Closure", name := "<init>", desc := "()V" } : Jvm.MethodName)) ∈ zm_tb := zm_memT3 88 rfl
theorem zw_569 : (Jvm.Cond.code ({ cls := "NeedMachine$Closure", name := "<init>", desc := "()V" } : Jvm.MethodName) prog_3_method_1_code (1 : Nat) (Option.none : Option Jvm.ClassFile.FieldType)) ∈ zm_tb := zm_memT3 89 rfl
theorem zw_570 : (Jvm.Cond.methodLink "NeedMachine$Closure" (1 : Nat) ({ cls := "java/lang/Object", name := "<init>", desc := "()V" } : Jvm.MethodName)) ∈ zm_tb := zm_memT3 90 rfl
theorem zw_571 : (Jvm.Cond.fieldLink "NeedMachine$Store" (77 : Nat) "NeedMachine$Closure" "expression" "LNeedMachine$Expression;") ∈ zm_tb := zm_memT3 91 rfl
theorem zw_572 : (Jvm.Cond.fieldLink "NeedMachine" (245 : Nat) "NeedMachine$Closure" "expression" "LNeedMachine$Expression;") ∈ zm_tb := zm_memT3 92 rfl
theorem zw_573 : (Jvm.Cond.fieldLink "NeedMachine$Store" (81 : Nat) "NeedMachine$Closure" "given" "LNeedMachine$Arguments;") ∈ zm_tb := zm_memT3 93 rfl
theorem zw_574 : (Jvm.Cond.fieldLink "NeedMachine" (248 : Nat) "NeedMachine$Closure" "given" "LNeedMachine$Arguments;") ∈ zm_tb := zm_memT3 94 rfl
theorem zw_575 : (Jvm.Cond.fieldLink "NeedMachine$Store" (84 : Nat) "NeedMachine$Closure" "begun" "Z") ∈ zm_tb := zm_memT3 95 rfl
theorem zw_576 : (Jvm.Cond.fieldLink "NeedMachine" (235 : Nat) "NeedMachine$Closure" "begun" "Z") ∈ zm_tb := zm_memT3 96 rfl
theorem zw_577 : (Jvm.Cond.fieldLink "NeedMachine$Store" (88 : Nat) "NeedMachine$Closure" "value" "LNeedMachine$Value;") ∈ zm_tb := zm_memT3 97 rfl
theorem zw_578 : (Jvm.Cond.fieldLink "NeedMachine" (251 : Nat) "NeedMachine$Closure" "value" "LNeedMachine$Value;") ∈ zm_tb := zm_memT3 98 rfl
theorem zw_588 : (Jvm.Cond.methodLink "NeedMachine" (174 : Nat) ({ cls := "NeedMachine$Store", name := "makePair", desc := "(LNeedMachine$Closure;LNeedMachine$Closure;)LNeedMachine$Value;" } : Jvm.MethodName)) ∈ zm_tb := zm_memT3 108 rfl
theorem zw_589 : (Jvm.Cond.instanceMethod ({ cls := "NeedMachine$Store", name := "makePair", desc := "(LNeedMachine$Closure;LNeedMachine$Closure;)LNeedMachine$Value;" } : Jvm.MethodName)) ∈ zm_tb := zm_memT3 109 rfl
theorem zw_590 : (Jvm.Cond.selects "NeedMachine$Store" ({ cls := "NeedMachine$Store", name := "makePair", desc := "(LNeedMachine$Closure;LNeedMachine$Closure;)LNeedMachine$Value;" } : Jvm.MethodName) ({ cls := "NeedMachine$Store", name := "makePair", desc := "(LNeedMachine$Closure;LNeedMachine$Closure;)LNeedMachine$Value;" } : Jvm.MethodName)) ∈ zm_tb := zm_memT3 110 rfl
theorem zw_591 : (Jvm.Cond.code ({ cls := "NeedMachine$Store", name := "makePair", desc := "(LNeedMachine$Closure;LNeedMachine$Closure;)LNeedMachine$Value;" } : Jvm.MethodName) prog_6_method_4_code (4 : Nat) (Option.some (Jvm.ClassFile.FieldType.object "NeedMachine$Value"))) ∈ zm_tb := zm_memT3 111 rfl
theorem zw_592 : (Jvm.Cond.methodLink "NeedMachine" (178 : Nat) ({ cls := "NeedMachine", name := "apply", desc := "(LNeedMachine$Expression;LNeedMachine$Arguments;I)LNeedMachine$Value;" } : Jvm.MethodName)) ∈ zm_tb := zm_memT3 112 rfl
theorem zw_594 : (Jvm.Cond.instanceMethod ({ cls := "NeedMachine", name := "apply", desc := "(LNeedMachine$Expression;LNeedMachine$Arguments;I)LNeedMachine$Value;" } : Jvm.MethodName)) ∈ zm_tb := zm_memT3 114 rfl
theorem zw_595 : (Jvm.Cond.code ({ cls := "NeedMachine", name := "apply", desc := "(LNeedMachine$Expression;LNeedMachine$Arguments;I)LNeedMachine$Value;" } : Jvm.MethodName) prog_1_method_14_code (7 : Nat) (Option.some (Jvm.ClassFile.FieldType.object "NeedMachine$Value"))) ∈ zm_tb := zm_memT3 115 rfl
theorem zw_596 : (Jvm.Cond.classLink "NeedMachine" (198 : Nat) "java/lang/UnsupportedOperationException") ∈ zm_tb := zm_memT3 116 rfl
theorem zw_597 : (Jvm.Cond.instantiable "java/lang/UnsupportedOperationException" (6 : Nat)) ∈ zm_tb := zm_memT3 117 rfl
theorem zw_598 : (Jvm.Cond.castable "java/lang/UnsupportedOperationException" "java/lang/UnsupportedOperationException") ∈ zm_tb := zm_memT3 118 rfl
theorem zw_605 : (Jvm.Cond.stringRef "NeedMachine" (200 : Nat) "only a function can be applied") ∈ zm_tb := zm_memT3 125 rfl
theorem zw_606 : (Jvm.Cond.methodLink "NeedMachine" (202 : Nat) ({ cls := "java/lang/UnsupportedOperationException", name := "<init>", desc := "(Ljava/lang/String;)V" } : Jvm.MethodName)) ∈ zm_tb := zm_memT3 126 rfl
theorem zw_612 : (Jvm.Cond.methodLink "NeedMachine" (210 : Nat) ({ cls := "NeedMachine$Store", name := "makeArguments", desc := "(LNeedMachine$Arguments;LNeedMachine$Closure;)LNeedMachine$Arguments;" } : Jvm.MethodName)) ∈ zm_tb := zm_memT3 132 rfl
theorem zw_613 : (Jvm.Cond.instanceMethod ({ cls := "NeedMachine$Store", name := "makeArguments", desc := "(LNeedMachine$Arguments;LNeedMachine$Closure;)LNeedMachine$Arguments;" } : Jvm.MethodName)) ∈ zm_tb := zm_memT3 133 rfl
theorem zw_614 : (Jvm.Cond.selects "NeedMachine$Store" ({ cls := "NeedMachine$Store", name := "makeArguments", desc := "(LNeedMachine$Arguments;LNeedMachine$Closure;)LNeedMachine$Arguments;" } : Jvm.MethodName) ({ cls := "NeedMachine$Store", name := "makeArguments", desc := "(LNeedMachine$Arguments;LNeedMachine$Closure;)LNeedMachine$Arguments;" } : Jvm.MethodName)) ∈ zm_tb := zm_memT3 134 rfl
theorem zw_615 : (Jvm.Cond.code ({ cls := "NeedMachine$Store", name := "makeArguments", desc := "(LNeedMachine$Arguments;LNeedMachine$Closure;)LNeedMachine$Arguments;" } : Jvm.MethodName) prog_6_method_7_code (4 : Nat) (Option.some (Jvm.ClassFile.FieldType.object "NeedMachine$Arguments"))) ∈ zm_tb := zm_memT3 135 rfl
theorem zw_616 : (Jvm.Cond.classLink "NeedMachine$Store" (91 : Nat) "NeedMachine$Arguments") ∈ zm_tb := zm_memT3 136 rfl
theorem zw_617 : (Jvm.Cond.instantiable "NeedMachine$Arguments" (3 : Nat)) ∈ zm_tb := zm_memT3 137 rfl
theorem zw_618 : (Jvm.Cond.methodLinkNest "NeedMachine$Store" (93 : Nat) ({ cls := "NeedMachine$Arguments", name := "<init>", desc := "()V" } : Jvm.MethodName) "NeedMachine") ∈ zm_tb := zm_memT3 138 rfl
theorem zw_619 : (Jvm.Cond.instanceMethod ({ cls := "NeedMachine$Arguments", name := "<init>", desc := "()V" } : Jvm.MethodName)) ∈ zm_tb := zm_memT3 139 rfl
theorem zw_620 : (Jvm.Cond.code ({ cls := "NeedMachine$Arguments", name := "<init>", desc := "()V" } : Jvm.MethodName) prog_2_method_1_code (1 : Nat) (Option.none : Option Jvm.ClassFile.FieldType)) ∈ zm_tb := zm_memT3 140 rfl
theorem zw_621 : (Jvm.Cond.methodLink "NeedMachine$Arguments" (1 : Nat) ({ cls := "java/lang/Object", name := "<init>", desc := "()V" } : Jvm.MethodName)) ∈ zm_tb := zm_memT3 141 rfl
theorem zw_622 : (Jvm.Cond.fieldLink "NeedMachine$Store" (94 : Nat) "NeedMachine$Arguments" "before" "LNeedMachine$Arguments;") ∈ zm_tb := zm_memT3 142 rfl
theorem zw_623 : (Jvm.Cond.fieldLink "NeedMachine" (262 : Nat) "NeedMachine$Arguments" "before" "LNeedMachine$Arguments;") ∈ zm_tb := zm_memT3 143 rfl
theorem zw_624 : (Jvm.Cond.fieldLink "NeedMachine$Store" (97 : Nat) "NeedMachine$Arguments" "last" "LNeedMachine$Closure;") ∈ zm_tb := zm_memT3 144 rfl
theorem zw_625 : (Jvm.Cond.fieldLink "NeedMachine" (259 : Nat) "NeedMachine$Arguments" "last" "LNeedMachine$Closure;") ∈ zm_tb := zm_memT3 145 rfl
theorem zw_626 : (Jvm.Cond.fieldLink "NeedMachine$Store" (100 : Nat) "NeedMachine$Arguments" "size" "I") ∈ zm_tb := zm_memT3 146 rfl
theorem zw_627 : (Jvm.Cond.fieldLink "NeedMachine" (214 : Nat) "NeedMachine$Arguments" "size" "I") ∈ zm_tb := zm_memT3 147 rfl
theorem zw_635 : (Jvm.Cond.methodLink "NeedMachine" (124 : Nat) ({ cls := "NeedMachine", name := "mustBePair", desc := "(LNeedMachine$Value;)LNeedMachine$Value;" } : Jvm.MethodName)) ∈ zm_tb := zm_memT3 155 rfl
theorem zw_636 : (Jvm.Cond.static ({ cls := "NeedMachine", name := "mustBePair", desc := "(LNeedMachine$Value;)LNeedMachine$Value;" } : Jvm.MethodName)) ∈ zm_tb := zm_memT3 156 rfl
theorem zw_637 : (Jvm.Cond.code ({ cls := "NeedMachine", name := "mustBePair", desc := "(LNeedMachine$Value;)LNeedMachine$Value;" } : Jvm.MethodName) prog_1_method_25_code (1 : Nat) (Option.some (Jvm.ClassFile.FieldType.object "NeedMachine$Value"))) ∈ zm_tb := zm_memT3 157 rfl
theorem zw_638 : (Jvm.Cond.stringRef "NeedMachine" (271 : Nat) "nil has no parts") ∈ zm_tb := zm_memT3 158 rfl
theorem zw_639 : (Jvm.Cond.stringRef "NeedMachine" (273 : Nat) "only a pair will do") ∈ zm_tb := zm_memT3 159 rfl
theorem zw_640 : (Jvm.Cond.methodLink "NeedMachine" (181 : Nat) ({ cls := "NeedMachine", name := "isNil", desc := "(LNeedMachine$Value;)I" } : Jvm.MethodName)) ∈ zm_tb := zm_memT3 160 rfl
theorem zw_641 : (Jvm.Cond.static ({ cls := "NeedMachine", name := "isNil", desc := "(LNeedMachine$Value;)I" } : Jvm.MethodName)) ∈ zm_tb := zm_memT3 161 rfl
theorem zw_642 : (Jvm.Cond.code ({ cls := "NeedMachine", name := "isNil", desc := "(LNeedMachine$Value;)I" } : Jvm.MethodName) prog_1_method_26_code (1 : Nat) (Option.some Jvm.ClassFile.FieldType.int)) ∈ zm_tb := zm_memT3 162 rfl
theorem zw_643 : (Jvm.Cond.stringRef "NeedMachine" (275 : Nat) "only nil or a pair will do") ∈ zm_tb := zm_memT3 163 rfl
theorem zw_644 : (Jvm.Cond.methodLink "NeedMachine" (184 : Nat) ({ cls := "NeedMachine", name := "choose", desc := "(LNeedMachine$Expression;LNeedMachine$Arguments;I)LNeedMachine$Value;" } : Jvm.MethodName)) ∈ zm_tb := zm_memT3 164 rfl
theorem zw_646 : (Jvm.Cond.instanceMethod ({ cls := "NeedMachine", name := "choose", desc := "(LNeedMachine$Expression;LNeedMachine$Arguments;I)LNeedMachine$Value;" } : Jvm.MethodName)) ∈ zm_tb := zm_memT3 166 rfl
theorem zw_647 : (Jvm.Cond.code ({ cls := "NeedMachine", name := "choose", desc := "(LNeedMachine$Expression;LNeedMachine$Arguments;I)LNeedMachine$Value;" } : Jvm.MethodName) prog_1_method_16_code (5 : Nat) (Option.some (Jvm.ClassFile.FieldType.object "NeedMachine$Value"))) ∈ zm_tb := zm_memT3 167 rfl
theorem zw_648 : (Jvm.Cond.methodLink "NeedMachine" (77 : Nat) ({ cls := "NeedMachine", name := "mustBeNumber", desc := "(LNeedMachine$Value;)I" } : Jvm.MethodName)) ∈ zm_tb := zm_memT3 168 rfl
theorem zw_649 : (Jvm.Cond.static ({ cls := "NeedMachine", name := "mustBeNumber", desc := "(LNeedMachine$Value;)I" } : Jvm.MethodName)) ∈ zm_tb := zm_memT3 169 rfl
theorem zw_650 : (Jvm.Cond.code ({ cls := "NeedMachine", name := "mustBeNumber", desc := "(LNeedMachine$Value;)I" } : Jvm.MethodName) prog_1_method_24_code (1 : Nat) (Option.some Jvm.ClassFile.FieldType.int)) ∈ zm_tb := zm_memT3 170 rfl
theorem zw_651 : (Jvm.Cond.stringRef "NeedMachine" (269 : Nat) "only a number will do") ∈ zm_tb := zm_memT3 171 rfl
theorem zw_652 : (Jvm.Cond.methodLink "NeedMachine" (187 : Nat) ({ cls := "NeedMachine", name := "reckon", desc := "(LNeedMachine$Expression;LNeedMachine$Arguments;I)LNeedMachine$Value;" } : Jvm.MethodName)) ∈ zm_tb := zm_memT3 172 rfl
theorem zw_654 : (Jvm.Cond.instanceMethod ({ cls := "NeedMachine", name := "reckon", desc := "(LNeedMachine$Expression;LNeedMachine$Arguments;I)LNeedMachine$Value;" } : Jvm.MethodName)) ∈ zm_tb := zm_memT3 174 rfl
theorem zw_655 : (Jvm.Cond.code ({ cls := "NeedMachine", name := "reckon", desc := "(LNeedMachine$Expression;LNeedMachine$Arguments;I)LNeedMachine$Value;" } : Jvm.MethodName) prog_1_method_17_code (6 : Nat) (Option.some (Jvm.ClassFile.FieldType.object "NeedMachine$Value"))) ∈ zm_tb := zm_memT3 175 rfl
theorem zw_656 : (Jvm.Cond.methodLink "NeedMachine" (227 : Nat) ({ cls := "NeedMachine", name := "reckonNumbers", desc := "(CII)I" } : Jvm.MethodName)) ∈ zm_tb := zm_memT3 176 rfl
theorem zw_657 : (Jvm.Cond.static ({ cls := "NeedMachine", name := "reckonNumbers", desc := "(CII)I" } : Jvm.MethodName)) ∈ zm_tb := zm_memT3 177 rfl
theorem zw_658 : (Jvm.Cond.code ({ cls := "NeedMachine", name := "reckonNumbers", desc := "(CII)I" } : Jvm.MethodName) prog_1_method_18_code (3 : Nat) (Option.some Jvm.ClassFile.FieldType.int)) ∈ zm_tb := zm_memT3 178 rfl
theorem zw_659 : (Jvm.Cond.methodLink "NeedMachine" (231 : Nat) ({ cls := "NeedMachine", name := "mustNotBeZero", desc := "(I)I" } : Jvm.MethodName)) ∈ zm_tb := zm_memT3 179 rfl
theorem zw_660 : (Jvm.Cond.static ({ cls := "NeedMachine", name := "mustNotBeZero", desc := "(I)I" } : Jvm.MethodName)) ∈ zm_tb := zm_memT3 180 rfl
theorem zw_661 : (Jvm.Cond.code ({ cls := "NeedMachine", name := "mustNotBeZero", desc := "(I)I" } : Jvm.MethodName) prog_1_method_27_code (1 : Nat) (Option.some Jvm.ClassFile.FieldType.int)) ∈ zm_tb := zm_memT3 181 rfl
theorem zw_662 : (Jvm.Cond.classLink "NeedMachine" (277 : Nat) "java/lang/ArithmeticException") ∈ zm_tb := zm_memT3 182 rfl
theorem zw_663 : (Jvm.Cond.instantiable "java/lang/ArithmeticException" (6 : Nat)) ∈ zm_tb := zm_memT3 183 rfl
theorem zw_664 : (Jvm.Cond.castable "java/lang/ArithmeticException" "java/lang/ArithmeticException") ∈ zm_tb := zm_memT3 184 rfl
theorem zw_671 : (Jvm.Cond.stringRef "NeedMachine" (279 : Nat) "divided by zero") ∈ zm_tb := zm_memT3 191 rfl
theorem zw_672 : (Jvm.Cond.methodLink "NeedMachine" (281 : Nat) ({ cls := "java/lang/ArithmeticException", name := "<init>", desc := "(Ljava/lang/String;)V" } : Jvm.MethodName)) ∈ zm_tb := zm_memT3 192 rfl
theorem zw_678 : (Jvm.Cond.methodLink "NeedMachineLaw" (62 : Nat) ({ cls := "NeedMachineLaw", name := "number", desc := "(LNeedMachine;[J)I" } : Jvm.MethodName)) ∈ zm_tb := zm_memT3 198 rfl
theorem zw_679 : (Jvm.Cond.static ({ cls := "NeedMachineLaw", name := "number", desc := "(LNeedMachine;[J)I" } : Jvm.MethodName)) ∈ zm_tb := zm_memT3 199 rfl
theorem zw_680 : (Jvm.Cond.codeWith ({ cls := "NeedMachineLaw", name := "number", desc := "(LNeedMachine;[J)I" } : Jvm.MethodName) method_6_code (3 : Nat) (Option.some Jvm.ClassFile.FieldType.int) [((0 : Nat), (8 : Nat), (11 : Nat), (24 : Nat)), ((0 : Nat), (8 : Nat), (14 : Nat), (28 : Nat))]) ∈ zm_tb := zm_memT3 200 rfl
theorem zw_681 : (Jvm.Cond.methodLink "NeedMachineLaw" (30 : Nat) ({ cls := "NeedMachine", name := "number", desc := "()I" } : Jvm.MethodName)) ∈ zm_tb := zm_memT3 201 rfl
theorem zw_682 : (Jvm.Cond.instanceMethod ({ cls := "NeedMachine", name := "number", desc := "()I" } : Jvm.MethodName)) ∈ zm_tb := zm_memT3 202 rfl
theorem zw_683 : (Jvm.Cond.selects "NeedMachine" ({ cls := "NeedMachine", name := "number", desc := "()I" } : Jvm.MethodName) ({ cls := "NeedMachine", name := "number", desc := "()I" } : Jvm.MethodName)) ∈ zm_tb := zm_memT3 203 rfl
theorem zw_684 : (Jvm.Cond.code ({ cls := "NeedMachine", name := "number", desc := "()I" } : Jvm.MethodName) prog_1_method_5_code (1 : Nat) (Option.some Jvm.ClassFile.FieldType.int)) ∈ zm_tb := zm_memT3 204 rfl
theorem zw_685 : (Jvm.Cond.stringRef "NeedMachine" (72 : Nat) "there is no result") ∈ zm_tb := zm_memT3 205 rfl
theorem zw_686 : (Jvm.Cond.methodLink "NeedMachineLaw" (65 : Nat) ({ cls := "NeedMachineLaw", name := "head", desc := "(LNeedMachine;[J)I" } : Jvm.MethodName)) ∈ zm_tb := zm_memT3 206 rfl
theorem zw_687 : (Jvm.Cond.static ({ cls := "NeedMachineLaw", name := "head", desc := "(LNeedMachine;[J)I" } : Jvm.MethodName)) ∈ zm_tb := zm_memT3 207 rfl
theorem zw_688 : (Jvm.Cond.codeWith ({ cls := "NeedMachineLaw", name := "head", desc := "(LNeedMachine;[J)I" } : Jvm.MethodName) method_7_code (3 : Nat) (Option.some Jvm.ClassFile.FieldType.int) [((0 : Nat), (8 : Nat), (11 : Nat), (24 : Nat)), ((0 : Nat), (8 : Nat), (14 : Nat), (26 : Nat)), ((0 : Nat), (8 : Nat), (17 : Nat), (15 : Nat)), ((0 : Nat), (8 : Nat), (20 : Nat), (28 : Nat))]) ∈ zm_tb := zm_memT3 208 rfl
theorem zw_689 : (Jvm.Cond.methodLink "NeedMachineLaw" (33 : Nat) ({ cls := "NeedMachine", name := "head", desc := "()I" } : Jvm.MethodName)) ∈ zm_tb := zm_memT3 209 rfl
theorem zw_690 : (Jvm.Cond.instanceMethod ({ cls := "NeedMachine", name := "head", desc := "()I" } : Jvm.MethodName)) ∈ zm_tb := zm_memT3 210 rfl
theorem zw_691 : (Jvm.Cond.selects "NeedMachine" ({ cls := "NeedMachine", name := "head", desc := "()I" } : Jvm.MethodName) ({ cls := "NeedMachine", name := "head", desc := "()I" } : Jvm.MethodName)) ∈ zm_tb := zm_memT3 211 rfl
theorem zw_692 : (Jvm.Cond.code ({ cls := "NeedMachine", name := "head", desc := "()I" } : Jvm.MethodName) prog_1_method_6_code (3 : Nat) (Option.some Jvm.ClassFile.FieldType.int)) ∈ zm_tb := zm_memT3 212 rfl
theorem zw_693 : (Jvm.Cond.methodLink "NeedMachine" (81 : Nat) ({ cls := "NeedMachine", name := "takeResultPair", desc := "()LNeedMachine$Value;" } : Jvm.MethodName)) ∈ zm_tb := zm_memT3 213 rfl
theorem zw_695 : (Jvm.Cond.instanceMethod ({ cls := "NeedMachine", name := "takeResultPair", desc := "()LNeedMachine$Value;" } : Jvm.MethodName)) ∈ zm_tb := zm_memT3 215 rfl
theorem zw_696 : (Jvm.Cond.code ({ cls := "NeedMachine", name := "takeResultPair", desc := "()LNeedMachine$Value;" } : Jvm.MethodName) prog_1_method_11_code (2 : Nat) (Option.some (Jvm.ClassFile.FieldType.object "NeedMachine$Value"))) ∈ zm_tb := zm_memT3 216 rfl
theorem zw_697 : (Jvm.Cond.methodLink "NeedMachineLaw" (68 : Nat) ({ cls := "NeedMachineLaw", name := "tail", desc := "(LNeedMachine;[J)I" } : Jvm.MethodName)) ∈ zm_tb := zm_memT3 217 rfl
theorem zw_698 : (Jvm.Cond.static ({ cls := "NeedMachineLaw", name := "tail", desc := "(LNeedMachine;[J)I" } : Jvm.MethodName)) ∈ zm_tb := zm_memT3 218 rfl
theorem zw_699 : (Jvm.Cond.codeWith ({ cls := "NeedMachineLaw", name := "tail", desc := "(LNeedMachine;[J)I" } : Jvm.MethodName) method_8_code (3 : Nat) (Option.some Jvm.ClassFile.FieldType.int) [((0 : Nat), (8 : Nat), (11 : Nat), (24 : Nat)), ((0 : Nat), (8 : Nat), (14 : Nat), (26 : Nat)), ((0 : Nat), (8 : Nat), (17 : Nat), (15 : Nat)), ((0 : Nat), (8 : Nat), (20 : Nat), (28 : Nat))]) ∈ zm_tb := zm_memT3 219 rfl
theorem zw_700 : (Jvm.Cond.methodLink "NeedMachineLaw" (36 : Nat) ({ cls := "NeedMachine", name := "tail", desc := "()I" } : Jvm.MethodName)) ∈ zm_tb := zm_memT3 220 rfl
theorem zw_701 : (Jvm.Cond.instanceMethod ({ cls := "NeedMachine", name := "tail", desc := "()I" } : Jvm.MethodName)) ∈ zm_tb := zm_memT3 221 rfl
theorem zw_702 : (Jvm.Cond.selects "NeedMachine" ({ cls := "NeedMachine", name := "tail", desc := "()I" } : Jvm.MethodName) ({ cls := "NeedMachine", name := "tail", desc := "()I" } : Jvm.MethodName)) ∈ zm_tb := zm_memT3 222 rfl
theorem zw_703 : (Jvm.Cond.code ({ cls := "NeedMachine", name := "tail", desc := "()I" } : Jvm.MethodName) prog_1_method_7_code (2 : Nat) (Option.some Jvm.ClassFile.FieldType.int)) ∈ zm_tb := zm_memT3 223 rfl
theorem zw_704 : (Jvm.Cond.methodLink "NeedMachineLaw" (71 : Nat) ({ cls := "NeedMachineLaw", name := "remove", desc := "(LNeedMachine;I)I" } : Jvm.MethodName)) ∈ zm_tb := zm_memT3 224 rfl
theorem zw_705 : (Jvm.Cond.static ({ cls := "NeedMachineLaw", name := "remove", desc := "(LNeedMachine;I)I" } : Jvm.MethodName)) ∈ zm_tb := zm_memT3 225 rfl
theorem zw_706 : (Jvm.Cond.codeWith ({ cls := "NeedMachineLaw", name := "remove", desc := "(LNeedMachine;I)I" } : Jvm.MethodName) method_9_code (3 : Nat) (Option.some Jvm.ClassFile.FieldType.int) [((0 : Nat), (5 : Nat), (8 : Nat), (13 : Nat)), ((0 : Nat), (5 : Nat), (11 : Nat), (24 : Nat))]) ∈ zm_tb := zm_memT3 226 rfl
theorem zw_707 : (Jvm.Cond.methodLink "NeedMachineLaw" (39 : Nat) ({ cls := "NeedMachine", name := "remove", desc := "(I)V" } : Jvm.MethodName)) ∈ zm_tb := zm_memT3 227 rfl
theorem zw_708 : (Jvm.Cond.instanceMethod ({ cls := "NeedMachine", name := "remove", desc := "(I)V" } : Jvm.MethodName)) ∈ zm_tb := zm_memT3 228 rfl
theorem zw_709 : (Jvm.Cond.selects "NeedMachine" ({ cls := "NeedMachine", name := "remove", desc := "(I)V" } : Jvm.MethodName) ({ cls := "NeedMachine", name := "remove", desc := "(I)V" } : Jvm.MethodName)) ∈ zm_tb := zm_memT3 229 rfl
theorem zw_710 : (Jvm.Cond.code ({ cls := "NeedMachine", name := "remove", desc := "(I)V" } : Jvm.MethodName) prog_1_method_8_code (2 : Nat) (Option.none : Option Jvm.ClassFile.FieldType)) ∈ zm_tb := zm_memT3 230 rfl
theorem zw_711 : (Jvm.Cond.classLink "NeedMachine" (96 : Nat) "java/lang/IllegalArgumentException") ∈ zm_tb := zm_memT3 231 rfl
theorem zw_712 : (Jvm.Cond.stringRef "NeedMachine" (98 : Nat) "no such name") ∈ zm_tb := zm_memT3 232 rfl
theorem zw_713 : (Jvm.Cond.methodLink "NeedMachine" (100 : Nat) ({ cls := "java/lang/IllegalArgumentException", name := "<init>", desc := "(Ljava/lang/String;)V" } : Jvm.MethodName)) ∈ zm_tb := zm_memT3 233 rfl
theorem zw_714 : (Jvm.Cond.classLink "NeedMachineLaw" (44 : Nat) "NeedMachineModel") ∈ zm_tb := zm_memT3 234 rfl
theorem zw_715 : (Jvm.Cond.instantiable "NeedMachineModel" (44 : Nat)) ∈ zm_tb := zm_memT3 235 rfl
theorem zw_716 : (Jvm.Cond.methodLink "NeedMachineLaw" (46 : Nat) ({ cls := "NeedMachineModel", name := "<init>", desc := "()V" } : Jvm.MethodName)) ∈ zm_tb := zm_memT3 236 rfl
theorem zw_717 : (Jvm.Cond.instanceMethod ({ cls := "NeedMachineModel", name := "<init>", desc := "()V" } : Jvm.MethodName)) ∈ zm_tb := zm_memT3 237 rfl
theorem zw_718 : (Jvm.Cond.code ({ cls := "NeedMachineModel", name := "<init>", desc := "()V" } : Jvm.MethodName) prog_10_method_1_code (1 : Nat) (Option.none : Option Jvm.ClassFile.FieldType)) ∈ zm_tb := zm_memT3 238 rfl
theorem zw_719 : (Jvm.Cond.methodLink "NeedMachineModel" (1 : Nat) ({ cls := "java/lang/Object", name := "<init>", desc := "()V" } : Jvm.MethodName)) ∈ zm_tb := zm_memT3 239 rfl
theorem zw_720 : (Jvm.Cond.fieldLink "NeedMachineModel" (7 : Nat) "NeedMachineModel" "text" "[I") ∈ zm_tb := zm_memT4 0 rfl
theorem zw_721 : (Jvm.Cond.fieldLink "NeedMachineModel" (13 : Nat) "NeedMachineModel" "pool" "[I") ∈ zm_tb := zm_memT4 1 rfl
theorem zw_722 : (Jvm.Cond.fieldLink "NeedMachineModel" (16 : Nat) "NeedMachineModel" "spare" "[I") ∈ zm_tb := zm_memT4 2 rfl
theorem zw_723 : (Jvm.Cond.fieldLink "NeedMachineModel" (19 : Nat) "NeedMachineModel" "body" "[I") ∈ zm_tb := zm_memT4 3 rfl
theorem zw_724 : (Jvm.Cond.fieldLink "NeedMachineModel" (22 : Nat) "NeedMachineModel" "letters" "[I") ∈ zm_tb := zm_memT4 4 rfl
theorem zw_725 : (Jvm.Cond.fieldLink "NeedMachineModel" (25 : Nat) "NeedMachineModel" "parameters" "[I") ∈ zm_tb := zm_memT4 5 rfl
theorem zw_726 : (Jvm.Cond.fieldLink "NeedMachineModel" (28 : Nat) "NeedMachineModel" "need" "[I") ∈ zm_tb := zm_memT4 6 rfl
theorem zw_727 : (Jvm.Cond.fieldLink "NeedMachineModel" (31 : Nat) "NeedMachineModel" "defined" "[Z") ∈ zm_tb := zm_memT4 7 rfl
theorem zw_728 : (Jvm.Cond.fieldLink "NeedMachineModel" (95 : Nat) "NeedMachineModel" "size" "I") ∈ zm_tb := zm_memT4 8 rfl
theorem zw_729 : (Jvm.Cond.fieldLink "NeedMachineModel" (35 : Nat) "NeedMachineModel" "place" "I") ∈ zm_tb := zm_memT4 9 rfl
theorem zw_730 : (Jvm.Cond.fieldLink "NeedMachineModel" (102 : Nat) "NeedMachineModel" "pos" "I") ∈ zm_tb := zm_memT4 10 rfl
theorem zw_731 : (Jvm.Cond.fieldLink "NeedMachineModel" (112 : Nat) "NeedMachineModel" "pooled" "I") ∈ zm_tb := zm_memT4 11 rfl
theorem zw_732 : (Jvm.Cond.fieldLink "NeedMachineModel" (84 : Nat) "NeedMachineModel" "thrown" "I") ∈ zm_tb := zm_memT4 12 rfl
theorem zw_733 : (Jvm.Cond.fieldLink "NeedMachineModel" (39 : Nat) "NeedMachineModel" "expression" "[I") ∈ zm_tb := zm_memT4 13 rfl
theorem zw_734 : (Jvm.Cond.fieldLink "NeedMachineModel" (42 : Nat) "NeedMachineModel" "around" "[I") ∈ zm_tb := zm_memT4 14 rfl
theorem zw_735 : (Jvm.Cond.fieldLink "NeedMachineModel" (45 : Nat) "NeedMachineModel" "state" "[I") ∈ zm_tb := zm_memT4 15 rfl
theorem zw_736 : (Jvm.Cond.fieldLink "NeedMachineModel" (48 : Nat) "NeedMachineModel" "kind" "[I") ∈ zm_tb := zm_memT4 16 rfl
theorem zw_737 : (Jvm.Cond.fieldLink "NeedMachineModel" (51 : Nat) "NeedMachineModel" "first" "[I") ∈ zm_tb := zm_memT4 17 rfl
theorem zw_738 : (Jvm.Cond.fieldLink "NeedMachineModel" (54 : Nat) "NeedMachineModel" "second" "[I") ∈ zm_tb := zm_memT4 18 rfl
theorem zw_739 : (Jvm.Cond.fieldLink "NeedMachineModel" (57 : Nat) "NeedMachineModel" "name" "[I") ∈ zm_tb := zm_memT4 19 rfl
theorem zw_740 : (Jvm.Cond.fieldLink "NeedMachineModel" (60 : Nat) "NeedMachineModel" "holds" "[I") ∈ zm_tb := zm_memT4 20 rfl
theorem zw_741 : (Jvm.Cond.fieldLink "NeedMachineModel" (63 : Nat) "NeedMachineModel" "argument" "[I") ∈ zm_tb := zm_memT4 21 rfl
theorem zw_742 : (Jvm.Cond.fieldLink "NeedMachineModel" (66 : Nat) "NeedMachineModel" "before" "[I") ∈ zm_tb := zm_memT4 22 rfl
theorem zw_743 : (Jvm.Cond.fieldLink "NeedMachineModel" (135 : Nat) "NeedMachineModel" "closures" "I") ∈ zm_tb := zm_memT4 23 rfl
theorem zw_744 : (Jvm.Cond.fieldLink "NeedMachineModel" (132 : Nat) "NeedMachineModel" "surroundings" "I") ∈ zm_tb := zm_memT4 24 rfl
theorem zw_745 : (Jvm.Cond.fieldLink "NeedMachineModel" (129 : Nat) "NeedMachineModel" "arguments" "I") ∈ zm_tb := zm_memT4 25 rfl
theorem zw_746 : (Jvm.Cond.fieldLink "NeedMachineModel" (69 : Nat) "NeedMachineModel" "at" "[I") ∈ zm_tb := zm_memT4 26 rfl
theorem zw_747 : (Jvm.Cond.fieldLink "NeedMachineModel" (72 : Nat) "NeedMachineModel" "in" "[I") ∈ zm_tb := zm_memT4 27 rfl
theorem zw_748 : (Jvm.Cond.fieldLink "NeedMachineModel" (75 : Nat) "NeedMachineModel" "stage" "[I") ∈ zm_tb := zm_memT4 28 rfl
theorem zw_749 : (Jvm.Cond.fieldLink "NeedMachineModel" (78 : Nat) "NeedMachineModel" "kept" "[I") ∈ zm_tb := zm_memT4 29 rfl
theorem zw_750 : (Jvm.Cond.fieldLink "NeedMachineModel" (81 : Nat) "NeedMachineModel" "forcing" "[I") ∈ zm_tb := zm_memT4 30 rfl
theorem zw_751 : (Jvm.Cond.fieldLink "NeedMachineModel" (138 : Nat) "NeedMachineModel" "depth" "I") ∈ zm_tb := zm_memT4 31 rfl
theorem zw_752 : (Jvm.Cond.fieldLink "NeedMachineModel" (141 : Nat) "NeedMachineModel" "deepest" "I") ∈ zm_tb := zm_memT4 32 rfl
theorem zw_753 : (Jvm.Cond.fieldLink "NeedMachineModel" (175 : Nat) "NeedMachineModel" "callsNow" "I") ∈ zm_tb := zm_memT4 33 rfl
theorem zw_754 : (Jvm.Cond.fieldLink "NeedMachineModel" (178 : Nat) "NeedMachineModel" "calls" "I") ∈ zm_tb := zm_memT4 34 rfl
theorem zw_755 : (Jvm.Cond.fieldLink "NeedMachineModel" (168 : Nat) "NeedMachineModel" "forced" "I") ∈ zm_tb := zm_memT4 35 rfl
theorem zw_756 : (Jvm.Cond.fieldLink "NeedMachineModel" (161 : Nat) "NeedMachineModel" "again" "I") ∈ zm_tb := zm_memT4 36 rfl
theorem zw_757 : (Jvm.Cond.fieldLink "NeedMachineModel" (144 : Nat) "NeedMachineModel" "outKind" "I") ∈ zm_tb := zm_memT4 37 rfl
theorem zw_758 : (Jvm.Cond.fieldLink "NeedMachineModel" (147 : Nat) "NeedMachineModel" "outFirst" "I") ∈ zm_tb := zm_memT4 38 rfl
theorem zw_759 : (Jvm.Cond.fieldLink "NeedMachineModel" (150 : Nat) "NeedMachineModel" "outSecond" "I") ∈ zm_tb := zm_memT4 39 rfl
theorem zw_760 : (Jvm.Cond.fieldLink "NeedMachineModel" (220 : Nat) "NeedMachineModel" "resultKind" "I") ∈ zm_tb := zm_memT4 40 rfl
theorem zw_761 : (Jvm.Cond.fieldLink "NeedMachineModel" (223 : Nat) "NeedMachineModel" "resultFirst" "I") ∈ zm_tb := zm_memT4 41 rfl
theorem zw_762 : (Jvm.Cond.fieldLink "NeedMachineModel" (226 : Nat) "NeedMachineModel" "resultSecond" "I") ∈ zm_tb := zm_memT4 42 rfl
theorem zw_763 : (Jvm.Cond.fieldLink "NeedMachineModel" (216 : Nat) "NeedMachineModel" "has" "Z") ∈ zm_tb := zm_memT4 43 rfl
theorem zw_853 : (Jvm.Cond.arrayClass Jvm.ClassFile.FieldType.int) ∈ zm_tb := zm_memT4 133 rfl
theorem zw_854 : (Jvm.Cond.arrayClass Jvm.ClassFile.FieldType.boolean) ∈ zm_tb := zm_memT4 134 rfl
theorem zw_855 : (Jvm.Cond.methodLink "NeedMachineLaw" (54 : Nat) ({ cls := "NeedMachineModel", name := "type", desc := "(J)I" } : Jvm.MethodName)) ∈ zm_tb := zm_memT4 135 rfl
theorem zw_856 : (Jvm.Cond.instanceMethod ({ cls := "NeedMachineModel", name := "type", desc := "(J)I" } : Jvm.MethodName)) ∈ zm_tb := zm_memT4 136 rfl
theorem zw_857 : (Jvm.Cond.selects "NeedMachineModel" ({ cls := "NeedMachineModel", name := "type", desc := "(J)I" } : Jvm.MethodName) ({ cls := "NeedMachineModel", name := "type", desc := "(J)I" } : Jvm.MethodName)) ∈ zm_tb := zm_memT4 137 rfl
theorem zw_858 : (Jvm.Cond.code ({ cls := "NeedMachineModel", name := "type", desc := "(J)I" } : Jvm.MethodName) prog_10_method_6_code (7 : Nat) (Option.some Jvm.ClassFile.FieldType.int)) ∈ zm_tb := zm_memT4 138 rfl
theorem zw_859 : (Jvm.Cond.methodLink "NeedMachineModel" (87 : Nat) ({ cls := "NeedMachineModel", name := "between", desc := "(III)Z" } : Jvm.MethodName)) ∈ zm_tb := zm_memT4 139 rfl
theorem zw_860 : (Jvm.Cond.static ({ cls := "NeedMachineModel", name := "between", desc := "(III)Z" } : Jvm.MethodName)) ∈ zm_tb := zm_memT4 140 rfl
theorem zw_861 : (Jvm.Cond.code ({ cls := "NeedMachineModel", name := "between", desc := "(III)Z" } : Jvm.MethodName) prog_10_method_3_code (3 : Nat) (Option.some Jvm.ClassFile.FieldType.boolean)) ∈ zm_tb := zm_memT4 141 rfl
theorem zw_862 : (Jvm.Cond.methodLink "NeedMachineModel" (91 : Nat) ({ cls := "NeedMachineModel", name := "bad", desc := "(Z)Z" } : Jvm.MethodName)) ∈ zm_tb := zm_memT4 142 rfl
theorem zw_864 : (Jvm.Cond.instanceMethod ({ cls := "NeedMachineModel", name := "bad", desc := "(Z)Z" } : Jvm.MethodName)) ∈ zm_tb := zm_memT4 144 rfl
theorem zw_865 : (Jvm.Cond.code ({ cls := "NeedMachineModel", name := "bad", desc := "(Z)Z" } : Jvm.MethodName) prog_10_method_4_code (2 : Nat) (Option.some Jvm.ClassFile.FieldType.boolean)) ∈ zm_tb := zm_memT4 145 rfl
theorem zw_866 : (Jvm.Cond.methodLink "NeedMachineModel" (98 : Nat) ({ cls := "NeedMachineModel", name := "fail", desc := "(I)I" } : Jvm.MethodName)) ∈ zm_tb := zm_memT4 146 rfl
theorem zw_868 : (Jvm.Cond.instanceMethod ({ cls := "NeedMachineModel", name := "fail", desc := "(I)I" } : Jvm.MethodName)) ∈ zm_tb := zm_memT4 148 rfl
theorem zw_869 : (Jvm.Cond.code ({ cls := "NeedMachineModel", name := "fail", desc := "(I)I" } : Jvm.MethodName) prog_10_method_5_code (2 : Nat) (Option.some Jvm.ClassFile.FieldType.int)) ∈ zm_tb := zm_memT4 149 rfl
theorem zw_870 : (Jvm.Cond.methodLink "NeedMachineLaw" (58 : Nat) ({ cls := "NeedMachineModel", name := "define", desc := "()I" } : Jvm.MethodName)) ∈ zm_tb := zm_memT4 150 rfl
theorem zw_871 : (Jvm.Cond.instanceMethod ({ cls := "NeedMachineModel", name := "define", desc := "()I" } : Jvm.MethodName)) ∈ zm_tb := zm_memT4 151 rfl
theorem zw_872 : (Jvm.Cond.selects "NeedMachineModel" ({ cls := "NeedMachineModel", name := "define", desc := "()I" } : Jvm.MethodName) ({ cls := "NeedMachineModel", name := "define", desc := "()I" } : Jvm.MethodName)) ∈ zm_tb := zm_memT4 152 rfl
theorem zw_873 : (Jvm.Cond.code ({ cls := "NeedMachineModel", name := "define", desc := "()I" } : Jvm.MethodName) prog_10_method_12_code (8 : Nat) (Option.some Jvm.ClassFile.FieldType.int)) ∈ zm_tb := zm_memT4 153 rfl
theorem zw_874 : (Jvm.Cond.methodLink "NeedMachineModel" (115 : Nat) ({ cls := "NeedMachineModel", name := "heading", desc := "([I)I" } : Jvm.MethodName)) ∈ zm_tb := zm_memT4 154 rfl
theorem zw_876 : (Jvm.Cond.instanceMethod ({ cls := "NeedMachineModel", name := "heading", desc := "([I)I" } : Jvm.MethodName)) ∈ zm_tb := zm_memT4 156 rfl
theorem zw_877 : (Jvm.Cond.code ({ cls := "NeedMachineModel", name := "heading", desc := "([I)I" } : Jvm.MethodName) prog_10_method_10_code (4 : Nat) (Option.some Jvm.ClassFile.FieldType.int)) ∈ zm_tb := zm_memT4 157 rfl
theorem zw_878 : (Jvm.Cond.methodLink "NeedMachineModel" (105 : Nat) ({ cls := "NeedMachineModel", name := "look", desc := "()I" } : Jvm.MethodName)) ∈ zm_tb := zm_memT4 158 rfl
theorem zw_880 : (Jvm.Cond.instanceMethod ({ cls := "NeedMachineModel", name := "look", desc := "()I" } : Jvm.MethodName)) ∈ zm_tb := zm_memT4 160 rfl
theorem zw_881 : (Jvm.Cond.code ({ cls := "NeedMachineModel", name := "look", desc := "()I" } : Jvm.MethodName) prog_10_method_7_code (1 : Nat) (Option.some Jvm.ClassFile.FieldType.int)) ∈ zm_tb := zm_memT4 161 rfl
theorem zw_882 : (Jvm.Cond.methodLink "NeedMachineModel" (119 : Nat) ({ cls := "NeedMachineModel", name := "read", desc := "(I)Z" } : Jvm.MethodName)) ∈ zm_tb := zm_memT4 162 rfl
theorem zw_884 : (Jvm.Cond.instanceMethod ({ cls := "NeedMachineModel", name := "read", desc := "(I)Z" } : Jvm.MethodName)) ∈ zm_tb := zm_memT4 164 rfl
theorem zw_885 : (Jvm.Cond.code ({ cls := "NeedMachineModel", name := "read", desc := "(I)Z" } : Jvm.MethodName) prog_10_method_9_code (5 : Nat) (Option.some Jvm.ClassFile.FieldType.boolean)) ∈ zm_tb := zm_memT4 165 rfl
theorem zw_886 : (Jvm.Cond.methodLink "NeedMachineModel" (109 : Nat) ({ cls := "NeedMachineModel", name := "parts", desc := "(I)I" } : Jvm.MethodName)) ∈ zm_tb := zm_memT4 166 rfl
theorem zw_887 : (Jvm.Cond.static ({ cls := "NeedMachineModel", name := "parts", desc := "(I)I" } : Jvm.MethodName)) ∈ zm_tb := zm_memT4 167 rfl
theorem zw_888 : (Jvm.Cond.code ({ cls := "NeedMachineModel", name := "parts", desc := "(I)I" } : Jvm.MethodName) prog_10_method_8_code (1 : Nat) (Option.some Jvm.ClassFile.FieldType.int)) ∈ zm_tb := zm_memT4 168 rfl
theorem zw_889 : (Jvm.Cond.methodLink "NeedMachineModel" (123 : Nat) ({ cls := "NeedMachineModel", name := "store", desc := "(I)I" } : Jvm.MethodName)) ∈ zm_tb := zm_memT4 169 rfl
theorem zw_891 : (Jvm.Cond.instanceMethod ({ cls := "NeedMachineModel", name := "store", desc := "(I)I" } : Jvm.MethodName)) ∈ zm_tb := zm_memT4 171 rfl
theorem zw_892 : (Jvm.Cond.code ({ cls := "NeedMachineModel", name := "store", desc := "(I)I" } : Jvm.MethodName) prog_10_method_11_code (4 : Nat) (Option.some Jvm.ClassFile.FieldType.int)) ∈ zm_tb := zm_memT4 172 rfl
theorem zw_893 : (Jvm.Cond.methodLink "NeedMachineLaw" (61 : Nat) ({ cls := "NeedMachineModel", name := "ask", desc := "()I" } : Jvm.MethodName)) ∈ zm_tb := zm_memT4 173 rfl
theorem zw_894 : (Jvm.Cond.instanceMethod ({ cls := "NeedMachineModel", name := "ask", desc := "()I" } : Jvm.MethodName)) ∈ zm_tb := zm_memT4 174 rfl
theorem zw_895 : (Jvm.Cond.selects "NeedMachineModel" ({ cls := "NeedMachineModel", name := "ask", desc := "()I" } : Jvm.MethodName) ({ cls := "NeedMachineModel", name := "ask", desc := "()I" } : Jvm.MethodName)) ∈ zm_tb := zm_memT4 175 rfl
theorem zw_896 : (Jvm.Cond.code ({ cls := "NeedMachineModel", name := "ask", desc := "()I" } : Jvm.MethodName) prog_10_method_32_code (3 : Nat) (Option.some Jvm.ClassFile.FieldType.int)) ∈ zm_tb := zm_memT4 176 rfl
theorem zw_897 : (Jvm.Cond.methodLink "NeedMachineModel" (229 : Nat) ({ cls := "NeedMachineModel", name := "sweep", desc := "()V" } : Jvm.MethodName)) ∈ zm_tb := zm_memT4 177 rfl
theorem zw_899 : (Jvm.Cond.instanceMethod ({ cls := "NeedMachineModel", name := "sweep", desc := "()V" } : Jvm.MethodName)) ∈ zm_tb := zm_memT4 179 rfl
theorem zw_900 : (Jvm.Cond.code ({ cls := "NeedMachineModel", name := "sweep", desc := "()V" } : Jvm.MethodName) prog_10_method_13_code (6 : Nat) (Option.none : Option Jvm.ClassFile.FieldType)) ∈ zm_tb := zm_memT4 180 rfl
theorem zw_901 : (Jvm.Cond.methodLink "NeedMachineModel" (126 : Nat) ({ cls := "NeedMachineModel", name := "skip", desc := "(I)I" } : Jvm.MethodName)) ∈ zm_tb := zm_memT4 181 rfl
theorem zw_903 : (Jvm.Cond.instanceMethod ({ cls := "NeedMachineModel", name := "skip", desc := "(I)I" } : Jvm.MethodName)) ∈ zm_tb := zm_memT4 183 rfl
theorem zw_904 : (Jvm.Cond.code ({ cls := "NeedMachineModel", name := "skip", desc := "(I)I" } : Jvm.MethodName) prog_10_method_14_code (4 : Nat) (Option.some Jvm.ClassFile.FieldType.int)) ∈ zm_tb := zm_memT4 184 rfl
theorem zw_905 : (Jvm.Cond.methodLink "NeedMachineModel" (232 : Nat) ({ cls := "NeedMachineModel", name := "workOut", desc := "(II)V" } : Jvm.MethodName)) ∈ zm_tb := zm_memT4 185 rfl
theorem zw_907 : (Jvm.Cond.instanceMethod ({ cls := "NeedMachineModel", name := "workOut", desc := "(II)V" } : Jvm.MethodName)) ∈ zm_tb := zm_memT4 187 rfl
theorem zw_908 : (Jvm.Cond.code ({ cls := "NeedMachineModel", name := "workOut", desc := "(II)V" } : Jvm.MethodName) prog_10_method_30_code (3 : Nat) (Option.none : Option Jvm.ClassFile.FieldType)) ∈ zm_tb := zm_memT4 188 rfl
theorem zw_909 : (Jvm.Cond.methodLink "NeedMachineModel" (171 : Nat) ({ cls := "NeedMachineModel", name := "push", desc := "(II)V" } : Jvm.MethodName)) ∈ zm_tb := zm_memT4 189 rfl
theorem zw_911 : (Jvm.Cond.instanceMethod ({ cls := "NeedMachineModel", name := "push", desc := "(II)V" } : Jvm.MethodName)) ∈ zm_tb := zm_memT4 191 rfl
theorem zw_912 : (Jvm.Cond.code ({ cls := "NeedMachineModel", name := "push", desc := "(II)V" } : Jvm.MethodName) prog_10_method_15_code (3 : Nat) (Option.none : Option Jvm.ClassFile.FieldType)) ∈ zm_tb := zm_memT4 192 rfl
theorem zw_913 : (Jvm.Cond.methodLink "NeedMachineModel" (213 : Nat) ({ cls := "NeedMachineModel", name := "step", desc := "()V" } : Jvm.MethodName)) ∈ zm_tb := zm_memT4 193 rfl
theorem zw_915 : (Jvm.Cond.instanceMethod ({ cls := "NeedMachineModel", name := "step", desc := "()V" } : Jvm.MethodName)) ∈ zm_tb := zm_memT4 195 rfl
theorem zw_916 : (Jvm.Cond.code ({ cls := "NeedMachineModel", name := "step", desc := "()V" } : Jvm.MethodName) prog_10_method_29_code (5 : Nat) (Option.none : Option Jvm.ClassFile.FieldType)) ∈ zm_tb := zm_memT4 196 rfl
theorem zw_917 : (Jvm.Cond.methodLink "NeedMachineModel" (204 : Nat) ({ cls := "NeedMachineModel", name := "keepValue", desc := "()V" } : Jvm.MethodName)) ∈ zm_tb := zm_memT4 197 rfl
theorem zw_919 : (Jvm.Cond.instanceMethod ({ cls := "NeedMachineModel", name := "keepValue", desc := "()V" } : Jvm.MethodName)) ∈ zm_tb := zm_memT4 199 rfl
theorem zw_920 : (Jvm.Cond.code ({ cls := "NeedMachineModel", name := "keepValue", desc := "()V" } : Jvm.MethodName) prog_10_method_21_code (2 : Nat) (Option.none : Option Jvm.ClassFile.FieldType)) ∈ zm_tb := zm_memT4 200 rfl
theorem zw_921 : (Jvm.Cond.methodLink "NeedMachineModel" (164 : Nat) ({ cls := "NeedMachineModel", name := "giveClosure", desc := "(I)V" } : Jvm.MethodName)) ∈ zm_tb := zm_memT4 201 rfl
theorem zw_923 : (Jvm.Cond.instanceMethod ({ cls := "NeedMachineModel", name := "giveClosure", desc := "(I)V" } : Jvm.MethodName)) ∈ zm_tb := zm_memT4 203 rfl
theorem zw_924 : (Jvm.Cond.code ({ cls := "NeedMachineModel", name := "giveClosure", desc := "(I)V" } : Jvm.MethodName) prog_10_method_19_code (2 : Nat) (Option.none : Option Jvm.ClassFile.FieldType)) ∈ zm_tb := zm_memT4 204 rfl
theorem zw_925 : (Jvm.Cond.methodLink "NeedMachineModel" (157 : Nat) ({ cls := "NeedMachineModel", name := "give", desc := "(III)V" } : Jvm.MethodName)) ∈ zm_tb := zm_memT4 205 rfl
theorem zw_927 : (Jvm.Cond.instanceMethod ({ cls := "NeedMachineModel", name := "give", desc := "(III)V" } : Jvm.MethodName)) ∈ zm_tb := zm_memT4 207 rfl
theorem zw_928 : (Jvm.Cond.code ({ cls := "NeedMachineModel", name := "give", desc := "(III)V" } : Jvm.MethodName) prog_10_method_16_code (4 : Nat) (Option.none : Option Jvm.ClassFile.FieldType)) ∈ zm_tb := zm_memT4 208 rfl
theorem zw_929 : (Jvm.Cond.methodLink "NeedMachineModel" (207 : Nat) ({ cls := "NeedMachineModel", name := "goOn", desc := "(II)V" } : Jvm.MethodName)) ∈ zm_tb := zm_memT4 209 rfl
theorem zw_931 : (Jvm.Cond.instanceMethod ({ cls := "NeedMachineModel", name := "goOn", desc := "(II)V" } : Jvm.MethodName)) ∈ zm_tb := zm_memT4 211 rfl
theorem zw_932 : (Jvm.Cond.code ({ cls := "NeedMachineModel", name := "goOn", desc := "(II)V" } : Jvm.MethodName) prog_10_method_28_code (5 : Nat) (Option.none : Option Jvm.ClassFile.FieldType)) ∈ zm_tb := zm_memT4 212 rfl
theorem zw_933 : (Jvm.Cond.methodLink "NeedMachineModel" (190 : Nat) ({ cls := "NeedMachineModel", name := "apply", desc := "(I)V" } : Jvm.MethodName)) ∈ zm_tb := zm_memT4 213 rfl
theorem zw_935 : (Jvm.Cond.instanceMethod ({ cls := "NeedMachineModel", name := "apply", desc := "(I)V" } : Jvm.MethodName)) ∈ zm_tb := zm_memT4 215 rfl
theorem zw_936 : (Jvm.Cond.code ({ cls := "NeedMachineModel", name := "apply", desc := "(I)V" } : Jvm.MethodName) prog_10_method_24_code (6 : Nat) (Option.none : Option Jvm.ClassFile.FieldType)) ∈ zm_tb := zm_memT4 216 rfl
theorem zw_937 : (Jvm.Cond.methodLink "NeedMachineModel" (181 : Nat) ({ cls := "NeedMachineModel", name := "closureOf", desc := "(II)I" } : Jvm.MethodName)) ∈ zm_tb := zm_memT4 217 rfl
theorem zw_939 : (Jvm.Cond.instanceMethod ({ cls := "NeedMachineModel", name := "closureOf", desc := "(II)I" } : Jvm.MethodName)) ∈ zm_tb := zm_memT4 219 rfl
theorem zw_940 : (Jvm.Cond.code ({ cls := "NeedMachineModel", name := "closureOf", desc := "(II)I" } : Jvm.MethodName) prog_10_method_18_code (3 : Nat) (Option.some Jvm.ClassFile.FieldType.int)) ∈ zm_tb := zm_memT4 220 rfl
theorem zw_941 : (Jvm.Cond.methodLink "NeedMachineModel" (153 : Nat) ({ cls := "NeedMachineModel", name := "parameterOf", desc := "(II)I" } : Jvm.MethodName)) ∈ zm_tb := zm_memT4 221 rfl
theorem zw_943 : (Jvm.Cond.instanceMethod ({ cls := "NeedMachineModel", name := "parameterOf", desc := "(II)I" } : Jvm.MethodName)) ∈ zm_tb := zm_memT4 223 rfl
theorem zw_944 : (Jvm.Cond.code ({ cls := "NeedMachineModel", name := "parameterOf", desc := "(II)I" } : Jvm.MethodName) prog_10_method_17_code (4 : Nat) (Option.some Jvm.ClassFile.FieldType.int)) ∈ zm_tb := zm_memT4 224 rfl
theorem zw_945 : (Jvm.Cond.methodLink "NeedMachineModel" (184 : Nat) ({ cls := "NeedMachineModel", name := "countOf", desc := "(I)I" } : Jvm.MethodName)) ∈ zm_tb := zm_memT4 225 rfl
theorem zw_947 : (Jvm.Cond.instanceMethod ({ cls := "NeedMachineModel", name := "countOf", desc := "(I)I" } : Jvm.MethodName)) ∈ zm_tb := zm_memT4 227 rfl
theorem zw_948 : (Jvm.Cond.code ({ cls := "NeedMachineModel", name := "countOf", desc := "(I)I" } : Jvm.MethodName) prog_10_method_23_code (4 : Nat) (Option.some Jvm.ClassFile.FieldType.int)) ∈ zm_tb := zm_memT4 228 rfl
theorem zw_949 : (Jvm.Cond.methodLink "NeedMachineModel" (187 : Nat) ({ cls := "NeedMachineModel", name := "call", desc := "(III)V" } : Jvm.MethodName)) ∈ zm_tb := zm_memT4 229 rfl
theorem zw_951 : (Jvm.Cond.instanceMethod ({ cls := "NeedMachineModel", name := "call", desc := "(III)V" } : Jvm.MethodName)) ∈ zm_tb := zm_memT4 231 rfl
theorem zw_952 : (Jvm.Cond.code ({ cls := "NeedMachineModel", name := "call", desc := "(III)V" } : Jvm.MethodName) prog_10_method_22_code (7 : Nat) (Option.none : Option Jvm.ClassFile.FieldType)) ∈ zm_tb := zm_memT4 232 rfl
theorem zw_953 : (Jvm.Cond.methodLink "NeedMachineModel" (193 : Nat) ({ cls := "NeedMachineModel", name := "force", desc := "(I)V" } : Jvm.MethodName)) ∈ zm_tb := zm_memT4 233 rfl
theorem zw_955 : (Jvm.Cond.instanceMethod ({ cls := "NeedMachineModel", name := "force", desc := "(I)V" } : Jvm.MethodName)) ∈ zm_tb := zm_memT4 235 rfl
theorem zw_956 : (Jvm.Cond.code ({ cls := "NeedMachineModel", name := "force", desc := "(I)V" } : Jvm.MethodName) prog_10_method_20_code (2 : Nat) (Option.none : Option Jvm.ClassFile.FieldType)) ∈ zm_tb := zm_memT4 236 rfl
theorem zw_957 : (Jvm.Cond.methodLink "NeedMachineModel" (196 : Nat) ({ cls := "NeedMachineModel", name := "isNumber", desc := "()Z" } : Jvm.MethodName)) ∈ zm_tb := zm_memT4 237 rfl
theorem zw_959 : (Jvm.Cond.instanceMethod ({ cls := "NeedMachineModel", name := "isNumber", desc := "()Z" } : Jvm.MethodName)) ∈ zm_tb := zm_memT4 239 rfl
theorem zw_960 : (Jvm.Cond.code ({ cls := "NeedMachineModel", name := "isNumber", desc := "()Z" } : Jvm.MethodName) prog_10_method_27_code (1 : Nat) (Option.some Jvm.ClassFile.FieldType.boolean)) ∈ zm_tb := zm_memT5 0 rfl
theorem zw_961 : (Jvm.Cond.methodLink "NeedMachineModel" (200 : Nat) ({ cls := "NeedMachineModel", name := "binary", desc := "(III)I" } : Jvm.MethodName)) ∈ zm_tb := zm_memT5 1 rfl
theorem zw_963 : (Jvm.Cond.instanceMethod ({ cls := "NeedMachineModel", name := "binary", desc := "(III)I" } : Jvm.MethodName)) ∈ zm_tb := zm_memT5 3 rfl
theorem zw_964 : (Jvm.Cond.code ({ cls := "NeedMachineModel", name := "binary", desc := "(III)I" } : Jvm.MethodName) prog_10_method_26_code (4 : Nat) (Option.some Jvm.ClassFile.FieldType.int)) ∈ zm_tb := zm_memT5 4 rfl
theorem zw_965 : (Jvm.Cond.methodLink "NeedMachineModel" (210 : Nat) ({ cls := "NeedMachineModel", name := "nameAt", desc := "(I)V" } : Jvm.MethodName)) ∈ zm_tb := zm_memT5 5 rfl
theorem zw_967 : (Jvm.Cond.instanceMethod ({ cls := "NeedMachineModel", name := "nameAt", desc := "(I)V" } : Jvm.MethodName)) ∈ zm_tb := zm_memT5 7 rfl
theorem zw_968 : (Jvm.Cond.code ({ cls := "NeedMachineModel", name := "nameAt", desc := "(I)V" } : Jvm.MethodName) prog_10_method_25_code (2 : Nat) (Option.none : Option Jvm.ClassFile.FieldType)) ∈ zm_tb := zm_memT5 8 rfl
theorem zw_969 : (Jvm.Cond.methodLink "NeedMachineModel" (235 : Nat) ({ cls := "NeedMachineModel", name := "answer", desc := "()I" } : Jvm.MethodName)) ∈ zm_tb := zm_memT5 9 rfl
theorem zw_971 : (Jvm.Cond.instanceMethod ({ cls := "NeedMachineModel", name := "answer", desc := "()I" } : Jvm.MethodName)) ∈ zm_tb := zm_memT5 11 rfl
theorem zw_972 : (Jvm.Cond.code ({ cls := "NeedMachineModel", name := "answer", desc := "()I" } : Jvm.MethodName) prog_10_method_31_code (1 : Nat) (Option.some Jvm.ClassFile.FieldType.int)) ∈ zm_tb := zm_memT5 12 rfl
theorem zw_973 : (Jvm.Cond.methodLink "NeedMachineLaw" (64 : Nat) ({ cls := "NeedMachineModel", name := "number", desc := "()I" } : Jvm.MethodName)) ∈ zm_tb := zm_memT5 13 rfl
theorem zw_974 : (Jvm.Cond.instanceMethod ({ cls := "NeedMachineModel", name := "number", desc := "()I" } : Jvm.MethodName)) ∈ zm_tb := zm_memT5 14 rfl
theorem zw_975 : (Jvm.Cond.selects "NeedMachineModel" ({ cls := "NeedMachineModel", name := "number", desc := "()I" } : Jvm.MethodName) ({ cls := "NeedMachineModel", name := "number", desc := "()I" } : Jvm.MethodName)) ∈ zm_tb := zm_memT5 15 rfl
theorem zw_976 : (Jvm.Cond.code ({ cls := "NeedMachineModel", name := "number", desc := "()I" } : Jvm.MethodName) prog_10_method_33_code (1 : Nat) (Option.some Jvm.ClassFile.FieldType.int)) ∈ zm_tb := zm_memT5 16 rfl
theorem zw_977 : (Jvm.Cond.methodLink "NeedMachineLaw" (67 : Nat) ({ cls := "NeedMachineModel", name := "head", desc := "()I" } : Jvm.MethodName)) ∈ zm_tb := zm_memT5 17 rfl
theorem zw_978 : (Jvm.Cond.instanceMethod ({ cls := "NeedMachineModel", name := "head", desc := "()I" } : Jvm.MethodName)) ∈ zm_tb := zm_memT5 18 rfl
theorem zw_979 : (Jvm.Cond.selects "NeedMachineModel" ({ cls := "NeedMachineModel", name := "head", desc := "()I" } : Jvm.MethodName) ({ cls := "NeedMachineModel", name := "head", desc := "()I" } : Jvm.MethodName)) ∈ zm_tb := zm_memT5 19 rfl
theorem zw_980 : (Jvm.Cond.code ({ cls := "NeedMachineModel", name := "head", desc := "()I" } : Jvm.MethodName) prog_10_method_35_code (1 : Nat) (Option.some Jvm.ClassFile.FieldType.int)) ∈ zm_tb := zm_memT5 20 rfl
theorem zw_981 : (Jvm.Cond.methodLink "NeedMachineModel" (238 : Nat) ({ cls := "NeedMachineModel", name := "side", desc := "(Z)Z" } : Jvm.MethodName)) ∈ zm_tb := zm_memT5 21 rfl
theorem zw_983 : (Jvm.Cond.instanceMethod ({ cls := "NeedMachineModel", name := "side", desc := "(Z)Z" } : Jvm.MethodName)) ∈ zm_tb := zm_memT5 23 rfl
theorem zw_984 : (Jvm.Cond.code ({ cls := "NeedMachineModel", name := "side", desc := "(Z)Z" } : Jvm.MethodName) prog_10_method_34_code (3 : Nat) (Option.some Jvm.ClassFile.FieldType.boolean)) ∈ zm_tb := zm_memT5 24 rfl
theorem zw_985 : (Jvm.Cond.methodLink "NeedMachineLaw" (70 : Nat) ({ cls := "NeedMachineModel", name := "tail", desc := "()I" } : Jvm.MethodName)) ∈ zm_tb := zm_memT5 25 rfl
theorem zw_986 : (Jvm.Cond.instanceMethod ({ cls := "NeedMachineModel", name := "tail", desc := "()I" } : Jvm.MethodName)) ∈ zm_tb := zm_memT5 26 rfl
theorem zw_987 : (Jvm.Cond.selects "NeedMachineModel" ({ cls := "NeedMachineModel", name := "tail", desc := "()I" } : Jvm.MethodName) ({ cls := "NeedMachineModel", name := "tail", desc := "()I" } : Jvm.MethodName)) ∈ zm_tb := zm_memT5 27 rfl
theorem zw_988 : (Jvm.Cond.code ({ cls := "NeedMachineModel", name := "tail", desc := "()I" } : Jvm.MethodName) prog_10_method_36_code (1 : Nat) (Option.some Jvm.ClassFile.FieldType.int)) ∈ zm_tb := zm_memT5 28 rfl
theorem zw_989 : (Jvm.Cond.methodLink "NeedMachineLaw" (74 : Nat) ({ cls := "NeedMachineModel", name := "remove", desc := "(I)V" } : Jvm.MethodName)) ∈ zm_tb := zm_memT5 29 rfl
theorem zw_990 : (Jvm.Cond.instanceMethod ({ cls := "NeedMachineModel", name := "remove", desc := "(I)V" } : Jvm.MethodName)) ∈ zm_tb := zm_memT5 30 rfl
theorem zw_991 : (Jvm.Cond.selects "NeedMachineModel" ({ cls := "NeedMachineModel", name := "remove", desc := "(I)V" } : Jvm.MethodName) ({ cls := "NeedMachineModel", name := "remove", desc := "(I)V" } : Jvm.MethodName)) ∈ zm_tb := zm_memT5 31 rfl
theorem zw_992 : (Jvm.Cond.code ({ cls := "NeedMachineModel", name := "remove", desc := "(I)V" } : Jvm.MethodName) prog_10_method_37_code (2 : Nat) (Option.none : Option Jvm.ClassFile.FieldType)) ∈ zm_tb := zm_memT5 32 rfl
theorem zw_993 : (Jvm.Cond.methodLink "NeedMachineLaw" (79 : Nat) ({ cls := "NeedMachineModel", name := "count", desc := "(I)I" } : Jvm.MethodName)) ∈ zm_tb := zm_memT5 33 rfl
theorem zw_994 : (Jvm.Cond.instanceMethod ({ cls := "NeedMachineModel", name := "count", desc := "(I)I" } : Jvm.MethodName)) ∈ zm_tb := zm_memT5 34 rfl
theorem zw_995 : (Jvm.Cond.selects "NeedMachineModel" ({ cls := "NeedMachineModel", name := "count", desc := "(I)I" } : Jvm.MethodName) ({ cls := "NeedMachineModel", name := "count", desc := "(I)I" } : Jvm.MethodName)) ∈ zm_tb := zm_memT5 35 rfl
theorem zw_996 : (Jvm.Cond.code ({ cls := "NeedMachineModel", name := "count", desc := "(I)I" } : Jvm.MethodName) prog_10_method_38_code (4 : Nat) (Option.some Jvm.ClassFile.FieldType.int)) ∈ zm_tb := zm_memT5 36 rfl
theorem zw_997 : (Jvm.Cond.constantLong "NeedMachineLaw" (47 : Nat) (4294967295 : Int64)) ∈ zm_tb := zm_memT5 37 rfl
theorem zw_998 : (Jvm.Cond.arrayClass Jvm.ClassFile.FieldType.long) ∈ zm_tb := zm_memT5 38 rfl
theorem zw_1004 : (Jvm.Cond.selects "[Ljava/lang/Object;" ({ cls := "java/lang/Object", name := "getClass", desc := "()Ljava/lang/Class;" } : Jvm.MethodName) ({ cls := "java/lang/Object", name := "getClass", desc := "()Ljava/lang/Class;" } : Jvm.MethodName)) ∈ zm_tb := zm_memT5 44 rfl
theorem zw_1005 : (Jvm.Cond.declares ({ cls := "java/lang/Object", name := "getClass", desc := "()Ljava/lang/Class;" } : Jvm.MethodName)) ∈ zm_tb := zm_memT5 45 rfl
theorem zm_f0 : (∀ w ∈ u_ws "NeedMachine" zm_T0 9, w ∈ zm_tb) ∧ (∀ k, k < 9 → parseFieldDescriptor (zm_T0 k).2.2.1 = some (zm_fty 0 k)) ∧ ∀ a, a < 9 → ∀ b, b < 9 → a ≠ b → (zm_T0 a).2.1 ≠ (zm_T0 b).2.1 := ⟨by decide +kernel, by decide +kernel, by decide +kernel⟩
theorem zm_f1 : (∀ w ∈ u_ws "NeedMachine$Text" zm_T1 8, w ∈ zm_tb) ∧ (∀ k, k < 8 → parseFieldDescriptor (zm_T1 k).2.2.1 = some (zm_fty 1 k)) ∧ ∀ a, a < 8 → ∀ b, b < 8 → a ≠ b → (zm_T1 a).2.1 ≠ (zm_T1 b).2.1 := ⟨by decide +kernel, by decide +kernel, by decide +kernel⟩
theorem zm_f2 : (∀ w ∈ u_ws "NeedMachine$Store" zm_T2 7, w ∈ zm_tb) ∧ (∀ k, k < 7 → parseFieldDescriptor (zm_T2 k).2.2.1 = some (zm_fty 2 k)) ∧ ∀ a, a < 7 → ∀ b, b < 7 → a ≠ b → (zm_T2 a).2.1 ≠ (zm_T2 b).2.1 := ⟨by decide +kernel, by decide +kernel, by decide +kernel⟩
theorem zm_f3 : (∀ w ∈ u_ws "NeedMachine$Value" zm_T3 5, w ∈ zm_tb) ∧ (∀ k, k < 5 → parseFieldDescriptor (zm_T3 k).2.2.1 = some (zm_fty 3 k)) ∧ ∀ a, a < 5 → ∀ b, b < 5 → a ≠ b → (zm_T3 a).2.1 ≠ (zm_T3 b).2.1 := ⟨by decide +kernel, by decide +kernel, by decide +kernel⟩
theorem zm_f4 : (∀ w ∈ u_ws "java/util/ArrayList" zm_T4 3, w ∈ zm_tb) ∧ (∀ k, k < 3 → parseFieldDescriptor (zm_T4 k).2.2.1 = some (zm_fty 4 k)) ∧ ∀ a, a < 3 → ∀ b, b < 3 → a ≠ b → (zm_T4 a).2.1 ≠ (zm_T4 b).2.1 := ⟨by decide +kernel, by decide +kernel, by decide +kernel⟩
theorem zm_f5 : (∀ w ∈ u_ws "NeedMachineModel" zm_T5 44, w ∈ zm_tb) ∧ (∀ k, k < 44 → parseFieldDescriptor (zm_T5 k).2.2.1 = some (zm_fty 5 k)) ∧ ∀ a, a < 44 → ∀ b, b < 44 → a ≠ b → (zm_T5 a).2.1 ≠ (zm_T5 b).2.1 := ⟨by decide +kernel, by decide +kernel, by decide +kernel⟩
theorem zm_f6 : (∀ w ∈ u_ws "NeedMachine$Definition" zm_T6 3, w ∈ zm_tb) ∧ (∀ k, k < 3 → parseFieldDescriptor (zm_T6 k).2.2.1 = some (zm_fty 6 k)) ∧ ∀ a, a < 3 → ∀ b, b < 3 → a ≠ b → (zm_T6 a).2.1 ≠ (zm_T6 b).2.1 := ⟨by decide +kernel, by decide +kernel, by decide +kernel⟩
theorem zm_f7 : (∀ w ∈ u_ws "NeedMachine$Expression" zm_T7 5, w ∈ zm_tb) ∧ (∀ k, k < 5 → parseFieldDescriptor (zm_T7 k).2.2.1 = some (zm_fty 7 k)) ∧ ∀ a, a < 5 → ∀ b, b < 5 → a ≠ b → (zm_T7 a).2.1 ≠ (zm_T7 b).2.1 := ⟨by decide +kernel, by decide +kernel, by decide +kernel⟩
theorem zm_f8 : (∀ w ∈ u_ws "NeedMachine$Closure" zm_T8 4, w ∈ zm_tb) ∧ (∀ k, k < 4 → parseFieldDescriptor (zm_T8 k).2.2.1 = some (zm_fty 8 k)) ∧ ∀ a, a < 4 → ∀ b, b < 4 → a ≠ b → (zm_T8 a).2.1 ≠ (zm_T8 b).2.1 := ⟨by decide +kernel, by decide +kernel, by decide +kernel⟩
theorem zm_f9 : (∀ w ∈ u_ws "NeedMachine$Arguments" zm_T9 3, w ∈ zm_tb) ∧ (∀ k, k < 3 → parseFieldDescriptor (zm_T9 k).2.2.1 = some (zm_fty 9 k)) ∧ ∀ a, a < 3 → ∀ b, b < 3 → a ≠ b → (zm_T9 a).2.1 ≠ (zm_T9 b).2.1 := ⟨by decide +kernel, by decide +kernel, by decide +kernel⟩
end
section
theorem zd_0_0 : (zm_c0_0.all fun e => decide (decode (zm_by 0) e.1 = .ok (e.2.1, zm_ln e.2))) = true := by decide +kernel
theorem zd_0_1 : (zm_c0_1.all fun e => decide (decode (zm_by 0) e.1 = .ok (e.2.1, zm_ln e.2))) = true := by decide +kernel
theorem zd_0_2 : (zm_c0_2.all fun e => decide (decode (zm_by 0) e.1 = .ok (e.2.1, zm_ln e.2))) = true := by decide +kernel
theorem zd_0_3 : (zm_c0_3.all fun e => decide (decode (zm_by 0) e.1 = .ok (e.2.1, zm_ln e.2))) = true := by decide +kernel
theorem zd_0_4 : (zm_c0_4.all fun e => decide (decode (zm_by 0) e.1 = .ok (e.2.1, zm_ln e.2))) = true := by decide +kernel
theorem zd_0_5 : (zm_c0_5.all fun e => decide (decode (zm_by 0) e.1 = .ok (e.2.1, zm_ln e.2))) = true := by decide +kernel
theorem zd_0_6 : (zm_c0_6.all fun e => decide (decode (zm_by 0) e.1 = .ok (e.2.1, zm_ln e.2))) = true := by decide +kernel
theorem zd_0_7 : (zm_c0_7.all fun e => decide (decode (zm_by 0) e.1 = .ok (e.2.1, zm_ln e.2))) = true := by decide +kernel
theorem zd_0_8 : (zm_c0_8.all fun e => decide (decode (zm_by 0) e.1 = .ok (e.2.1, zm_ln e.2))) = true := by decide +kernel
theorem zd_0_9 : (zm_c0_9.all fun e => decide (decode (zm_by 0) e.1 = .ok (e.2.1, zm_ln e.2))) = true := by decide +kernel
theorem zd_0_10 : (zm_c0_10.all fun e => decide (decode (zm_by 0) e.1 = .ok (e.2.1, zm_ln e.2))) = true := by decide +kernel
theorem zd_0_11 : (zm_c0_11.all fun e => decide (decode (zm_by 0) e.1 = .ok (e.2.1, zm_ln e.2))) = true := by decide +kernel
theorem zd_0_12 : (zm_c0_12.all fun e => decide (decode (zm_by 0) e.1 = .ok (e.2.1, zm_ln e.2))) = true := by decide +kernel
theorem zd_0_13 : (zm_c0_13.all fun e => decide (decode (zm_by 0) e.1 = .ok (e.2.1, zm_ln e.2))) = true := by decide +kernel
theorem zd_0_14 : (zm_c0_14.all fun e => decide (decode (zm_by 0) e.1 = .ok (e.2.1, zm_ln e.2))) = true := by decide +kernel
theorem zd_0_15 : (zm_c0_15.all fun e => decide (decode (zm_by 0) e.1 = .ok (e.2.1, zm_ln e.2))) = true := by decide +kernel
theorem zd_0_16 : (zm_c0_16.all fun e => decide (decode (zm_by 0) e.1 = .ok (e.2.1, zm_ln e.2))) = true := by decide +kernel
theorem zd_0_17 : (zm_c0_17.all fun e => decide (decode (zm_by 0) e.1 = .ok (e.2.1, zm_ln e.2))) = true := by decide +kernel
theorem zd_0_18 : (zm_c0_18.all fun e => decide (decode (zm_by 0) e.1 = .ok (e.2.1, zm_ln e.2))) = true := by decide +kernel
theorem zd_0_19 : (zm_c0_19.all fun e => decide (decode (zm_by 0) e.1 = .ok (e.2.1, zm_ln e.2))) = true := by decide +kernel
theorem zd_0_20 : (zm_c0_20.all fun e => decide (decode (zm_by 0) e.1 = .ok (e.2.1, zm_ln e.2))) = true := by decide +kernel
theorem zd_0_21 : (zm_c0_21.all fun e => decide (decode (zm_by 0) e.1 = .ok (e.2.1, zm_ln e.2))) = true := by decide +kernel
theorem zd_0_22 : (zm_c0_22.all fun e => decide (decode (zm_by 0) e.1 = .ok (e.2.1, zm_ln e.2))) = true := by decide +kernel
theorem zd_0_23 : (zm_c0_23.all fun e => decide (decode (zm_by 0) e.1 = .ok (e.2.1, zm_ln e.2))) = true := by decide +kernel
theorem zd_1_0 : (zm_c1_0.all fun e => decide (decode (zm_by 1) e.1 = .ok (e.2.1, zm_ln e.2))) = true := by decide +kernel
theorem zd_1_1 : (zm_c1_1.all fun e => decide (decode (zm_by 1) e.1 = .ok (e.2.1, zm_ln e.2))) = true := by decide +kernel
theorem zd_1_2 : (zm_c1_2.all fun e => decide (decode (zm_by 1) e.1 = .ok (e.2.1, zm_ln e.2))) = true := by decide +kernel
theorem zd_2_0 : (zm_c2_0.all fun e => decide (decode (zm_by 2) e.1 = .ok (e.2.1, zm_ln e.2))) = true := by decide +kernel
theorem zd_3_0 : (zm_c3_0.all fun e => decide (decode (zm_by 3) e.1 = .ok (e.2.1, zm_ln e.2))) = true := by decide +kernel
theorem zd_3_1 : (zm_c3_1.all fun e => decide (decode (zm_by 3) e.1 = .ok (e.2.1, zm_ln e.2))) = true := by decide +kernel
theorem zd_3_2 : (zm_c3_2.all fun e => decide (decode (zm_by 3) e.1 = .ok (e.2.1, zm_ln e.2))) = true := by decide +kernel
theorem zd_4_0 : (zm_c4_0.all fun e => decide (decode (zm_by 4) e.1 = .ok (e.2.1, zm_ln e.2))) = true := by decide +kernel
theorem zd_4_1 : (zm_c4_1.all fun e => decide (decode (zm_by 4) e.1 = .ok (e.2.1, zm_ln e.2))) = true := by decide +kernel
theorem zd_4_2 : (zm_c4_2.all fun e => decide (decode (zm_by 4) e.1 = .ok (e.2.1, zm_ln e.2))) = true := by decide +kernel
theorem zd_4_3 : (zm_c4_3.all fun e => decide (decode (zm_by 4) e.1 = .ok (e.2.1, zm_ln e.2))) = true := by decide +kernel
theorem zd_4_4 : (zm_c4_4.all fun e => decide (decode (zm_by 4) e.1 = .ok (e.2.1, zm_ln e.2))) = true := by decide +kernel
theorem zd_5_0 : (zm_c5_0.all fun e => decide (decode (zm_by 5) e.1 = .ok (e.2.1, zm_ln e.2))) = true := by decide +kernel
theorem zd_6_0 : (zm_c6_0.all fun e => decide (decode (zm_by 6) e.1 = .ok (e.2.1, zm_ln e.2))) = true := by decide +kernel
theorem zd_7_0 : (zm_c7_0.all fun e => decide (decode (zm_by 7) e.1 = .ok (e.2.1, zm_ln e.2))) = true := by decide +kernel
theorem zd_8_0 : (zm_c8_0.all fun e => decide (decode (zm_by 8) e.1 = .ok (e.2.1, zm_ln e.2))) = true := by decide +kernel
theorem zd_9_0 : (zm_c9_0.all fun e => decide (decode (zm_by 9) e.1 = .ok (e.2.1, zm_ln e.2))) = true := by decide +kernel
theorem zd_9_1 : (zm_c9_1.all fun e => decide (decode (zm_by 9) e.1 = .ok (e.2.1, zm_ln e.2))) = true := by decide +kernel
theorem zd_9_2 : (zm_c9_2.all fun e => decide (decode (zm_by 9) e.1 = .ok (e.2.1, zm_ln e.2))) = true := by decide +kernel
theorem zd_9_3 : (zm_c9_3.all fun e => decide (decode (zm_by 9) e.1 = .ok (e.2.1, zm_ln e.2))) = true := by decide +kernel
theorem zd_9_4 : (zm_c9_4.all fun e => decide (decode (zm_by 9) e.1 = .ok (e.2.1, zm_ln e.2))) = true := by decide +kernel
theorem zd_10_0 : (zm_c10_0.all fun e => decide (decode (zm_by 10) e.1 = .ok (e.2.1, zm_ln e.2))) = true := by decide +kernel
theorem zd_10_1 : (zm_c10_1.all fun e => decide (decode (zm_by 10) e.1 = .ok (e.2.1, zm_ln e.2))) = true := by decide +kernel
theorem zd_10_2 : (zm_c10_2.all fun e => decide (decode (zm_by 10) e.1 = .ok (e.2.1, zm_ln e.2))) = true := by decide +kernel
theorem zd_10_3 : (zm_c10_3.all fun e => decide (decode (zm_by 10) e.1 = .ok (e.2.1, zm_ln e.2))) = true := by decide +kernel
theorem zd_11_0 : (zm_c11_0.all fun e => decide (decode (zm_by 11) e.1 = .ok (e.2.1, zm_ln e.2))) = true := by decide +kernel
theorem zd_11_1 : (zm_c11_1.all fun e => decide (decode (zm_by 11) e.1 = .ok (e.2.1, zm_ln e.2))) = true := by decide +kernel
theorem zd_11_2 : (zm_c11_2.all fun e => decide (decode (zm_by 11) e.1 = .ok (e.2.1, zm_ln e.2))) = true := by decide +kernel
theorem zd_12_0 : (zm_c12_0.all fun e => decide (decode (zm_by 12) e.1 = .ok (e.2.1, zm_ln e.2))) = true := by decide +kernel
theorem zd_13_0 : (zm_c13_0.all fun e => decide (decode (zm_by 13) e.1 = .ok (e.2.1, zm_ln e.2))) = true := by decide +kernel
theorem zd_13_1 : (zm_c13_1.all fun e => decide (decode (zm_by 13) e.1 = .ok (e.2.1, zm_ln e.2))) = true := by decide +kernel
theorem zd_13_2 : (zm_c13_2.all fun e => decide (decode (zm_by 13) e.1 = .ok (e.2.1, zm_ln e.2))) = true := by decide +kernel
theorem zd_13_3 : (zm_c13_3.all fun e => decide (decode (zm_by 13) e.1 = .ok (e.2.1, zm_ln e.2))) = true := by decide +kernel
theorem zd_13_4 : (zm_c13_4.all fun e => decide (decode (zm_by 13) e.1 = .ok (e.2.1, zm_ln e.2))) = true := by decide +kernel
theorem zd_13_5 : (zm_c13_5.all fun e => decide (decode (zm_by 13) e.1 = .ok (e.2.1, zm_ln e.2))) = true := by decide +kernel
theorem zd_13_6 : (zm_c13_6.all fun e => decide (decode (zm_by 13) e.1 = .ok (e.2.1, zm_ln e.2))) = true := by decide +kernel
theorem zd_13_7 : (zm_c13_7.all fun e => decide (decode (zm_by 13) e.1 = .ok (e.2.1, zm_ln e.2))) = true := by decide +kernel
theorem zd_13_8 : (zm_c13_8.all fun e => decide (decode (zm_by 13) e.1 = .ok (e.2.1, zm_ln e.2))) = true := by decide +kernel
theorem zd_13_9 : (zm_c13_9.all fun e => decide (decode (zm_by 13) e.1 = .ok (e.2.1, zm_ln e.2))) = true := by decide +kernel
theorem zd_13_10 : (zm_c13_10.all fun e => decide (decode (zm_by 13) e.1 = .ok (e.2.1, zm_ln e.2))) = true := by decide +kernel
theorem zd_14_0 : (zm_c14_0.all fun e => decide (decode (zm_by 14) e.1 = .ok (e.2.1, zm_ln e.2))) = true := by decide +kernel
theorem zd_14_1 : (zm_c14_1.all fun e => decide (decode (zm_by 14) e.1 = .ok (e.2.1, zm_ln e.2))) = true := by decide +kernel
theorem zd_15_0 : (zm_c15_0.all fun e => decide (decode (zm_by 15) e.1 = .ok (e.2.1, zm_ln e.2))) = true := by decide +kernel
theorem zd_15_1 : (zm_c15_1.all fun e => decide (decode (zm_by 15) e.1 = .ok (e.2.1, zm_ln e.2))) = true := by decide +kernel
theorem zd_16_0 : (zm_c16_0.all fun e => decide (decode (zm_by 16) e.1 = .ok (e.2.1, zm_ln e.2))) = true := by decide +kernel
theorem zd_16_1 : (zm_c16_1.all fun e => decide (decode (zm_by 16) e.1 = .ok (e.2.1, zm_ln e.2))) = true := by decide +kernel
theorem zd_16_2 : (zm_c16_2.all fun e => decide (decode (zm_by 16) e.1 = .ok (e.2.1, zm_ln e.2))) = true := by decide +kernel
theorem zd_17_0 : (zm_c17_0.all fun e => decide (decode (zm_by 17) e.1 = .ok (e.2.1, zm_ln e.2))) = true := by decide +kernel
theorem zd_17_1 : (zm_c17_1.all fun e => decide (decode (zm_by 17) e.1 = .ok (e.2.1, zm_ln e.2))) = true := by decide +kernel
theorem zd_17_2 : (zm_c17_2.all fun e => decide (decode (zm_by 17) e.1 = .ok (e.2.1, zm_ln e.2))) = true := by decide +kernel
theorem zd_17_3 : (zm_c17_3.all fun e => decide (decode (zm_by 17) e.1 = .ok (e.2.1, zm_ln e.2))) = true := by decide +kernel
theorem zd_17_4 : (zm_c17_4.all fun e => decide (decode (zm_by 17) e.1 = .ok (e.2.1, zm_ln e.2))) = true := by decide +kernel
theorem zd_17_5 : (zm_c17_5.all fun e => decide (decode (zm_by 17) e.1 = .ok (e.2.1, zm_ln e.2))) = true := by decide +kernel
theorem zd_17_6 : (zm_c17_6.all fun e => decide (decode (zm_by 17) e.1 = .ok (e.2.1, zm_ln e.2))) = true := by decide +kernel
theorem zd_17_7 : (zm_c17_7.all fun e => decide (decode (zm_by 17) e.1 = .ok (e.2.1, zm_ln e.2))) = true := by decide +kernel
theorem zd_17_8 : (zm_c17_8.all fun e => decide (decode (zm_by 17) e.1 = .ok (e.2.1, zm_ln e.2))) = true := by decide +kernel
theorem zd_17_9 : (zm_c17_9.all fun e => decide (decode (zm_by 17) e.1 = .ok (e.2.1, zm_ln e.2))) = true := by decide +kernel
theorem zd_17_10 : (zm_c17_10.all fun e => decide (decode (zm_by 17) e.1 = .ok (e.2.1, zm_ln e.2))) = true := by decide +kernel
theorem zd_17_11 : (zm_c17_11.all fun e => decide (decode (zm_by 17) e.1 = .ok (e.2.1, zm_ln e.2))) = true := by decide +kernel
theorem zd_18_0 : (zm_c18_0.all fun e => decide (decode (zm_by 18) e.1 = .ok (e.2.1, zm_ln e.2))) = true := by decide +kernel
theorem zd_18_1 : (zm_c18_1.all fun e => decide (decode (zm_by 18) e.1 = .ok (e.2.1, zm_ln e.2))) = true := by decide +kernel
theorem zd_18_2 : (zm_c18_2.all fun e => decide (decode (zm_by 18) e.1 = .ok (e.2.1, zm_ln e.2))) = true := by decide +kernel
theorem zd_19_0 : (zm_c19_0.all fun e => decide (decode (zm_by 19) e.1 = .ok (e.2.1, zm_ln e.2))) = true := by decide +kernel
theorem zd_19_1 : (zm_c19_1.all fun e => decide (decode (zm_by 19) e.1 = .ok (e.2.1, zm_ln e.2))) = true := by decide +kernel
theorem zd_20_0 : (zm_c20_0.all fun e => decide (decode (zm_by 20) e.1 = .ok (e.2.1, zm_ln e.2))) = true := by decide +kernel
theorem zd_20_1 : (zm_c20_1.all fun e => decide (decode (zm_by 20) e.1 = .ok (e.2.1, zm_ln e.2))) = true := by decide +kernel
theorem zd_21_0 : (zm_c21_0.all fun e => decide (decode (zm_by 21) e.1 = .ok (e.2.1, zm_ln e.2))) = true := by decide +kernel
theorem zd_21_1 : (zm_c21_1.all fun e => decide (decode (zm_by 21) e.1 = .ok (e.2.1, zm_ln e.2))) = true := by decide +kernel
theorem zd_21_2 : (zm_c21_2.all fun e => decide (decode (zm_by 21) e.1 = .ok (e.2.1, zm_ln e.2))) = true := by decide +kernel
theorem zd_21_3 : (zm_c21_3.all fun e => decide (decode (zm_by 21) e.1 = .ok (e.2.1, zm_ln e.2))) = true := by decide +kernel
theorem zd_21_4 : (zm_c21_4.all fun e => decide (decode (zm_by 21) e.1 = .ok (e.2.1, zm_ln e.2))) = true := by decide +kernel
theorem zd_21_5 : (zm_c21_5.all fun e => decide (decode (zm_by 21) e.1 = .ok (e.2.1, zm_ln e.2))) = true := by decide +kernel
theorem zd_21_6 : (zm_c21_6.all fun e => decide (decode (zm_by 21) e.1 = .ok (e.2.1, zm_ln e.2))) = true := by decide +kernel
theorem zd_22_0 : (zm_c22_0.all fun e => decide (decode (zm_by 22) e.1 = .ok (e.2.1, zm_ln e.2))) = true := by decide +kernel
theorem zd_22_1 : (zm_c22_1.all fun e => decide (decode (zm_by 22) e.1 = .ok (e.2.1, zm_ln e.2))) = true := by decide +kernel
theorem zd_22_2 : (zm_c22_2.all fun e => decide (decode (zm_by 22) e.1 = .ok (e.2.1, zm_ln e.2))) = true := by decide +kernel
theorem zd_23_0 : (zm_c23_0.all fun e => decide (decode (zm_by 23) e.1 = .ok (e.2.1, zm_ln e.2))) = true := by decide +kernel
theorem zd_23_1 : (zm_c23_1.all fun e => decide (decode (zm_by 23) e.1 = .ok (e.2.1, zm_ln e.2))) = true := by decide +kernel
theorem zd_23_2 : (zm_c23_2.all fun e => decide (decode (zm_by 23) e.1 = .ok (e.2.1, zm_ln e.2))) = true := by decide +kernel
theorem zd_24_0 : (zm_c24_0.all fun e => decide (decode (zm_by 24) e.1 = .ok (e.2.1, zm_ln e.2))) = true := by decide +kernel
theorem zd_24_1 : (zm_c24_1.all fun e => decide (decode (zm_by 24) e.1 = .ok (e.2.1, zm_ln e.2))) = true := by decide +kernel
theorem zd_24_2 : (zm_c24_2.all fun e => decide (decode (zm_by 24) e.1 = .ok (e.2.1, zm_ln e.2))) = true := by decide +kernel
theorem zd_24_3 : (zm_c24_3.all fun e => decide (decode (zm_by 24) e.1 = .ok (e.2.1, zm_ln e.2))) = true := by decide +kernel
theorem zd_25_0 : (zm_c25_0.all fun e => decide (decode (zm_by 25) e.1 = .ok (e.2.1, zm_ln e.2))) = true := by decide +kernel
theorem zd_25_1 : (zm_c25_1.all fun e => decide (decode (zm_by 25) e.1 = .ok (e.2.1, zm_ln e.2))) = true := by decide +kernel
theorem zd_25_2 : (zm_c25_2.all fun e => decide (decode (zm_by 25) e.1 = .ok (e.2.1, zm_ln e.2))) = true := by decide +kernel
theorem zd_25_3 : (zm_c25_3.all fun e => decide (decode (zm_by 25) e.1 = .ok (e.2.1, zm_ln e.2))) = true := by decide +kernel
theorem zd_25_4 : (zm_c25_4.all fun e => decide (decode (zm_by 25) e.1 = .ok (e.2.1, zm_ln e.2))) = true := by decide +kernel
theorem zd_25_5 : (zm_c25_5.all fun e => decide (decode (zm_by 25) e.1 = .ok (e.2.1, zm_ln e.2))) = true := by decide +kernel
theorem zd_25_6 : (zm_c25_6.all fun e => decide (decode (zm_by 25) e.1 = .ok (e.2.1, zm_ln e.2))) = true := by decide +kernel
theorem zd_25_7 : (zm_c25_7.all fun e => decide (decode (zm_by 25) e.1 = .ok (e.2.1, zm_ln e.2))) = true := by decide +kernel
theorem zd_25_8 : (zm_c25_8.all fun e => decide (decode (zm_by 25) e.1 = .ok (e.2.1, zm_ln e.2))) = true := by decide +kernel
theorem zd_25_9 : (zm_c25_9.all fun e => decide (decode (zm_by 25) e.1 = .ok (e.2.1, zm_ln e.2))) = true := by decide +kernel
theorem zd_25_10 : (zm_c25_10.all fun e => decide (decode (zm_by 25) e.1 = .ok (e.2.1, zm_ln e.2))) = true := by decide +kernel
theorem zd_25_11 : (zm_c25_11.all fun e => decide (decode (zm_by 25) e.1 = .ok (e.2.1, zm_ln e.2))) = true := by decide +kernel
theorem zd_25_12 : (zm_c25_12.all fun e => decide (decode (zm_by 25) e.1 = .ok (e.2.1, zm_ln e.2))) = true := by decide +kernel
theorem zd_25_13 : (zm_c25_13.all fun e => decide (decode (zm_by 25) e.1 = .ok (e.2.1, zm_ln e.2))) = true := by decide +kernel
theorem zd_25_14 : (zm_c25_14.all fun e => decide (decode (zm_by 25) e.1 = .ok (e.2.1, zm_ln e.2))) = true := by decide +kernel
theorem zd_26_0 : (zm_c26_0.all fun e => decide (decode (zm_by 26) e.1 = .ok (e.2.1, zm_ln e.2))) = true := by decide +kernel
theorem zd_26_1 : (zm_c26_1.all fun e => decide (decode (zm_by 26) e.1 = .ok (e.2.1, zm_ln e.2))) = true := by decide +kernel
theorem zd_26_2 : (zm_c26_2.all fun e => decide (decode (zm_by 26) e.1 = .ok (e.2.1, zm_ln e.2))) = true := by decide +kernel
theorem zd_26_3 : (zm_c26_3.all fun e => decide (decode (zm_by 26) e.1 = .ok (e.2.1, zm_ln e.2))) = true := by decide +kernel
theorem zd_26_4 : (zm_c26_4.all fun e => decide (decode (zm_by 26) e.1 = .ok (e.2.1, zm_ln e.2))) = true := by decide +kernel
theorem zd_27_0 : (zm_c27_0.all fun e => decide (decode (zm_by 27) e.1 = .ok (e.2.1, zm_ln e.2))) = true := by decide +kernel
theorem zd_27_1 : (zm_c27_1.all fun e => decide (decode (zm_by 27) e.1 = .ok (e.2.1, zm_ln e.2))) = true := by decide +kernel
theorem zd_28_0 : (zm_c28_0.all fun e => decide (decode (zm_by 28) e.1 = .ok (e.2.1, zm_ln e.2))) = true := by decide +kernel
theorem zd_28_1 : (zm_c28_1.all fun e => decide (decode (zm_by 28) e.1 = .ok (e.2.1, zm_ln e.2))) = true := by decide +kernel
theorem zd_28_2 : (zm_c28_2.all fun e => decide (decode (zm_by 28) e.1 = .ok (e.2.1, zm_ln e.2))) = true := by decide +kernel
theorem zd_29_0 : (zm_c29_0.all fun e => decide (decode (zm_by 29) e.1 = .ok (e.2.1, zm_ln e.2))) = true := by decide +kernel
theorem zd_29_1 : (zm_c29_1.all fun e => decide (decode (zm_by 29) e.1 = .ok (e.2.1, zm_ln e.2))) = true := by decide +kernel
theorem zd_30_0 : (zm_c30_0.all fun e => decide (decode (zm_by 30) e.1 = .ok (e.2.1, zm_ln e.2))) = true := by decide +kernel
theorem zd_30_1 : (zm_c30_1.all fun e => decide (decode (zm_by 30) e.1 = .ok (e.2.1, zm_ln e.2))) = true := by decide +kernel
theorem zd_30_2 : (zm_c30_2.all fun e => decide (decode (zm_by 30) e.1 = .ok (e.2.1, zm_ln e.2))) = true := by decide +kernel
theorem zd_30_3 : (zm_c30_3.all fun e => decide (decode (zm_by 30) e.1 = .ok (e.2.1, zm_ln e.2))) = true := by decide +kernel
theorem zd_30_4 : (zm_c30_4.all fun e => decide (decode (zm_by 30) e.1 = .ok (e.2.1, zm_ln e.2))) = true := by decide +kernel
theorem zd_30_5 : (zm_c30_5.all fun e => decide (decode (zm_by 30) e.1 = .ok (e.2.1, zm_ln e.2))) = true := by decide +kernel
theorem zd_30_6 : (zm_c30_6.all fun e => decide (decode (zm_by 30) e.1 = .ok (e.2.1, zm_ln e.2))) = true := by decide +kernel
theorem zd_30_7 : (zm_c30_7.all fun e => decide (decode (zm_by 30) e.1 = .ok (e.2.1, zm_ln e.2))) = true := by decide +kernel
theorem zd_30_8 : (zm_c30_8.all fun e => decide (decode (zm_by 30) e.1 = .ok (e.2.1, zm_ln e.2))) = true := by decide +kernel
theorem zd_31_0 : (zm_c31_0.all fun e => decide (decode (zm_by 31) e.1 = .ok (e.2.1, zm_ln e.2))) = true := by decide +kernel
theorem zd_31_1 : (zm_c31_1.all fun e => decide (decode (zm_by 31) e.1 = .ok (e.2.1, zm_ln e.2))) = true := by decide +kernel
theorem zd_31_2 : (zm_c31_2.all fun e => decide (decode (zm_by 31) e.1 = .ok (e.2.1, zm_ln e.2))) = true := by decide +kernel
theorem zd_32_0 : (zm_c32_0.all fun e => decide (decode (zm_by 32) e.1 = .ok (e.2.1, zm_ln e.2))) = true := by decide +kernel
theorem zd_32_1 : (zm_c32_1.all fun e => decide (decode (zm_by 32) e.1 = .ok (e.2.1, zm_ln e.2))) = true := by decide +kernel
theorem zd_33_0 : (zm_c33_0.all fun e => decide (decode (zm_by 33) e.1 = .ok (e.2.1, zm_ln e.2))) = true := by decide +kernel
theorem zd_33_1 : (zm_c33_1.all fun e => decide (decode (zm_by 33) e.1 = .ok (e.2.1, zm_ln e.2))) = true := by decide +kernel
theorem zd_33_2 : (zm_c33_2.all fun e => decide (decode (zm_by 33) e.1 = .ok (e.2.1, zm_ln e.2))) = true := by decide +kernel
theorem zd_33_3 : (zm_c33_3.all fun e => decide (decode (zm_by 33) e.1 = .ok (e.2.1, zm_ln e.2))) = true := by decide +kernel
theorem zd_34_0 : (zm_c34_0.all fun e => decide (decode (zm_by 34) e.1 = .ok (e.2.1, zm_ln e.2))) = true := by decide +kernel
theorem zd_34_1 : (zm_c34_1.all fun e => decide (decode (zm_by 34) e.1 = .ok (e.2.1, zm_ln e.2))) = true := by decide +kernel
theorem zd_34_2 : (zm_c34_2.all fun e => decide (decode (zm_by 34) e.1 = .ok (e.2.1, zm_ln e.2))) = true := by decide +kernel
theorem zd_34_3 : (zm_c34_3.all fun e => decide (decode (zm_by 34) e.1 = .ok (e.2.1, zm_ln e.2))) = true := by decide +kernel
theorem zd_34_4 : (zm_c34_4.all fun e => decide (decode (zm_by 34) e.1 = .ok (e.2.1, zm_ln e.2))) = true := by decide +kernel
theorem zd_35_0 : (zm_c35_0.all fun e => decide (decode (zm_by 35) e.1 = .ok (e.2.1, zm_ln e.2))) = true := by decide +kernel
theorem zd_36_0 : (zm_c36_0.all fun e => decide (decode (zm_by 36) e.1 = .ok (e.2.1, zm_ln e.2))) = true := by decide +kernel
theorem zd_36_1 : (zm_c36_1.all fun e => decide (decode (zm_by 36) e.1 = .ok (e.2.1, zm_ln e.2))) = true := by decide +kernel
theorem zd_37_0 : (zm_c37_0.all fun e => decide (decode (zm_by 37) e.1 = .ok (e.2.1, zm_ln e.2))) = true := by decide +kernel
theorem zd_37_1 : (zm_c37_1.all fun e => decide (decode (zm_by 37) e.1 = .ok (e.2.1, zm_ln e.2))) = true := by decide +kernel
theorem zd_37_2 : (zm_c37_2.all fun e => decide (decode (zm_by 37) e.1 = .ok (e.2.1, zm_ln e.2))) = true := by decide +kernel
theorem zd_37_3 : (zm_c37_3.all fun e => decide (decode (zm_by 37) e.1 = .ok (e.2.1, zm_ln e.2))) = true := by decide +kernel
theorem zd_37_4 : (zm_c37_4.all fun e => decide (decode (zm_by 37) e.1 = .ok (e.2.1, zm_ln e.2))) = true := by decide +kernel
theorem zd_37_5 : (zm_c37_5.all fun e => decide (decode (zm_by 37) e.1 = .ok (e.2.1, zm_ln e.2))) = true := by decide +kernel
theorem zd_37_6 : (zm_c37_6.all fun e => decide (decode (zm_by 37) e.1 = .ok (e.2.1, zm_ln e.2))) = true := by decide +kernel
theorem zd_37_7 : (zm_c37_7.all fun e => decide (decode (zm_by 37) e.1 = .ok (e.2.1, zm_ln e.2))) = true := by decide +kernel
theorem zd_37_8 : (zm_c37_8.all fun e => decide (decode (zm_by 37) e.1 = .ok (e.2.1, zm_ln e.2))) = true := by decide +kernel
theorem zd_37_9 : (zm_c37_9.all fun e => decide (decode (zm_by 37) e.1 = .ok (e.2.1, zm_ln e.2))) = true := by decide +kernel
theorem zd_37_10 : (zm_c37_10.all fun e => decide (decode (zm_by 37) e.1 = .ok (e.2.1, zm_ln e.2))) = true := by decide +kernel
theorem zd_37_11 : (zm_c37_11.all fun e => decide (decode (zm_by 37) e.1 = .ok (e.2.1, zm_ln e.2))) = true := by decide +kernel
theorem zd_37_12 : (zm_c37_12.all fun e => decide (decode (zm_by 37) e.1 = .ok (e.2.1, zm_ln e.2))) = true := by decide +kernel
theorem zd_37_13 : (zm_c37_13.all fun e => decide (decode (zm_by 37) e.1 = .ok (e.2.1, zm_ln e.2))) = true := by decide +kernel
theorem zd_37_14 : (zm_c37_14.all fun e => decide (decode (zm_by 37) e.1 = .ok (e.2.1, zm_ln e.2))) = true := by decide +kernel
theorem zd_37_15 : (zm_c37_15.all fun e => decide (decode (zm_by 37) e.1 = .ok (e.2.1, zm_ln e.2))) = true := by decide +kernel
theorem zd_37_16 : (zm_c37_16.all fun e => decide (decode (zm_by 37) e.1 = .ok (e.2.1, zm_ln e.2))) = true := by decide +kernel
theorem zd_37_17 : (zm_c37_17.all fun e => decide (decode (zm_by 37) e.1 = .ok (e.2.1, zm_ln e.2))) = true := by decide +kernel
theorem zd_37_18 : (zm_c37_18.all fun e => decide (decode (zm_by 37) e.1 = .ok (e.2.1, zm_ln e.2))) = true := by decide +kernel
theorem zd_38_0 : (zm_c38_0.all fun e => decide (decode (zm_by 38) e.1 = .ok (e.2.1, zm_ln e.2))) = true := by decide +kernel
theorem zd_38_1 : (zm_c38_1.all fun e => decide (decode (zm_by 38) e.1 = .ok (e.2.1, zm_ln e.2))) = true := by decide +kernel
theorem zd_39_0 : (zm_c39_0.all fun e => decide (decode (zm_by 39) e.1 = .ok (e.2.1, zm_ln e.2))) = true := by decide +kernel
theorem zd_39_1 : (zm_c39_1.all fun e => decide (decode (zm_by 39) e.1 = .ok (e.2.1, zm_ln e.2))) = true := by decide +kernel
theorem zd_39_2 : (zm_c39_2.all fun e => decide (decode (zm_by 39) e.1 = .ok (e.2.1, zm_ln e.2))) = true := by decide +kernel
theorem zd_39_3 : (zm_c39_3.all fun e => decide (decode (zm_by 39) e.1 = .ok (e.2.1, zm_ln e.2))) = true := by decide +kernel
theorem zd_39_4 : (zm_c39_4.all fun e => decide (decode (zm_by 39) e.1 = .ok (e.2.1, zm_ln e.2))) = true := by decide +kernel
theorem zd_39_5 : (zm_c39_5.all fun e => decide (decode (zm_by 39) e.1 = .ok (e.2.1, zm_ln e.2))) = true := by decide +kernel
theorem zd_40_0 : (zm_c40_0.all fun e => decide (decode (zm_by 40) e.1 = .ok (e.2.1, zm_ln e.2))) = true := by decide +kernel
theorem zd_40_1 : (zm_c40_1.all fun e => decide (decode (zm_by 40) e.1 = .ok (e.2.1, zm_ln e.2))) = true := by decide +kernel
theorem zd_40_2 : (zm_c40_2.all fun e => decide (decode (zm_by 40) e.1 = .ok (e.2.1, zm_ln e.2))) = true := by decide +kernel
theorem zd_41_0 : (zm_c41_0.all fun e => decide (decode (zm_by 41) e.1 = .ok (e.2.1, zm_ln e.2))) = true := by decide +kernel
theorem zd_41_1 : (zm_c41_1.all fun e => decide (decode (zm_by 41) e.1 = .ok (e.2.1, zm_ln e.2))) = true := by decide +kernel
theorem zd_41_2 : (zm_c41_2.all fun e => decide (decode (zm_by 41) e.1 = .ok (e.2.1, zm_ln e.2))) = true := by decide +kernel
theorem zd_41_3 : (zm_c41_3.all fun e => decide (decode (zm_by 41) e.1 = .ok (e.2.1, zm_ln e.2))) = true := by decide +kernel
theorem zd_41_4 : (zm_c41_4.all fun e => decide (decode (zm_by 41) e.1 = .ok (e.2.1, zm_ln e.2))) = true := by decide +kernel
theorem zd_41_5 : (zm_c41_5.all fun e => decide (decode (zm_by 41) e.1 = .ok (e.2.1, zm_ln e.2))) = true := by decide +kernel
theorem zd_42_0 : (zm_c42_0.all fun e => decide (decode (zm_by 42) e.1 = .ok (e.2.1, zm_ln e.2))) = true := by decide +kernel
theorem zd_43_0 : (zm_c43_0.all fun e => decide (decode (zm_by 43) e.1 = .ok (e.2.1, zm_ln e.2))) = true := by decide +kernel
theorem zd_43_1 : (zm_c43_1.all fun e => decide (decode (zm_by 43) e.1 = .ok (e.2.1, zm_ln e.2))) = true := by decide +kernel
theorem zd_43_2 : (zm_c43_2.all fun e => decide (decode (zm_by 43) e.1 = .ok (e.2.1, zm_ln e.2))) = true := by decide +kernel
theorem zd_43_3 : (zm_c43_3.all fun e => decide (decode (zm_by 43) e.1 = .ok (e.2.1, zm_ln e.2))) = true := by decide +kernel
theorem zd_44_0 : (zm_c44_0.all fun e => decide (decode (zm_by 44) e.1 = .ok (e.2.1, zm_ln e.2))) = true := by decide +kernel
theorem zd_44_1 : (zm_c44_1.all fun e => decide (decode (zm_by 44) e.1 = .ok (e.2.1, zm_ln e.2))) = true := by decide +kernel
theorem zd_45_0 : (zm_c45_0.all fun e => decide (decode (zm_by 45) e.1 = .ok (e.2.1, zm_ln e.2))) = true := by decide +kernel
theorem zd_45_1 : (zm_c45_1.all fun e => decide (decode (zm_by 45) e.1 = .ok (e.2.1, zm_ln e.2))) = true := by decide +kernel
theorem zd_45_2 : (zm_c45_2.all fun e => decide (decode (zm_by 45) e.1 = .ok (e.2.1, zm_ln e.2))) = true := by decide +kernel
theorem zd_45_3 : (zm_c45_3.all fun e => decide (decode (zm_by 45) e.1 = .ok (e.2.1, zm_ln e.2))) = true := by decide +kernel
theorem zd_45_4 : (zm_c45_4.all fun e => decide (decode (zm_by 45) e.1 = .ok (e.2.1, zm_ln e.2))) = true := by decide +kernel
theorem zd_46_0 : (zm_c46_0.all fun e => decide (decode (zm_by 46) e.1 = .ok (e.2.1, zm_ln e.2))) = true := by decide +kernel
theorem zd_46_1 : (zm_c46_1.all fun e => decide (decode (zm_by 46) e.1 = .ok (e.2.1, zm_ln e.2))) = true := by decide +kernel
theorem zd_47_0 : (zm_c47_0.all fun e => decide (decode (zm_by 47) e.1 = .ok (e.2.1, zm_ln e.2))) = true := by decide +kernel
theorem zd_47_1 : (zm_c47_1.all fun e => decide (decode (zm_by 47) e.1 = .ok (e.2.1, zm_ln e.2))) = true := by decide +kernel
theorem zd_47_2 : (zm_c47_2.all fun e => decide (decode (zm_by 47) e.1 = .ok (e.2.1, zm_ln e.2))) = true := by decide +kernel
theorem zd_48_0 : (zm_c48_0.all fun e => decide (decode (zm_by 48) e.1 = .ok (e.2.1, zm_ln e.2))) = true := by decide +kernel
theorem zd_48_1 : (zm_c48_1.all fun e => decide (decode (zm_by 48) e.1 = .ok (e.2.1, zm_ln e.2))) = true := by decide +kernel
theorem zd_48_2 : (zm_c48_2.all fun e => decide (decode (zm_by 48) e.1 = .ok (e.2.1, zm_ln e.2))) = true := by decide +kernel
theorem zd_48_3 : (zm_c48_3.all fun e => decide (decode (zm_by 48) e.1 = .ok (e.2.1, zm_ln e.2))) = true := by decide +kernel
theorem zd_48_4 : (zm_c48_4.all fun e => decide (decode (zm_by 48) e.1 = .ok (e.2.1, zm_ln e.2))) = true := by decide +kernel
theorem zd_48_5 : (zm_c48_5.all fun e => decide (decode (zm_by 48) e.1 = .ok (e.2.1, zm_ln e.2))) = true := by decide +kernel
theorem zd_48_6 : (zm_c48_6.all fun e => decide (decode (zm_by 48) e.1 = .ok (e.2.1, zm_ln e.2))) = true := by decide +kernel
theorem zd_49_0 : (zm_c49_0.all fun e => decide (decode (zm_by 49) e.1 = .ok (e.2.1, zm_ln e.2))) = true := by decide +kernel
theorem zd_50_0 : (zm_c50_0.all fun e => decide (decode (zm_by 50) e.1 = .ok (e.2.1, zm_ln e.2))) = true := by decide +kernel
theorem zd_50_1 : (zm_c50_1.all fun e => decide (decode (zm_by 50) e.1 = .ok (e.2.1, zm_ln e.2))) = true := by decide +kernel
theorem zd_51_0 : (zm_c51_0.all fun e => decide (decode (zm_by 51) e.1 = .ok (e.2.1, zm_ln e.2))) = true := by decide +kernel
theorem zd_51_1 : (zm_c51_1.all fun e => decide (decode (zm_by 51) e.1 = .ok (e.2.1, zm_ln e.2))) = true := by decide +kernel
theorem zd_51_2 : (zm_c51_2.all fun e => decide (decode (zm_by 51) e.1 = .ok (e.2.1, zm_ln e.2))) = true := by decide +kernel
theorem zd_51_3 : (zm_c51_3.all fun e => decide (decode (zm_by 51) e.1 = .ok (e.2.1, zm_ln e.2))) = true := by decide +kernel
theorem zd_51_4 : (zm_c51_4.all fun e => decide (decode (zm_by 51) e.1 = .ok (e.2.1, zm_ln e.2))) = true := by decide +kernel
theorem zd_51_5 : (zm_c51_5.all fun e => decide (decode (zm_by 51) e.1 = .ok (e.2.1, zm_ln e.2))) = true := by decide +kernel
theorem zd_51_6 : (zm_c51_6.all fun e => decide (decode (zm_by 51) e.1 = .ok (e.2.1, zm_ln e.2))) = true := by decide +kernel
theorem zd_51_7 : (zm_c51_7.all fun e => decide (decode (zm_by 51) e.1 = .ok (e.2.1, zm_ln e.2))) = true := by decide +kernel
theorem zd_52_0 : (zm_c52_0.all fun e => decide (decode (zm_by 52) e.1 = .ok (e.2.1, zm_ln e.2))) = true := by decide +kernel
theorem zd_52_1 : (zm_c52_1.all fun e => decide (decode (zm_by 52) e.1 = .ok (e.2.1, zm_ln e.2))) = true := by decide +kernel
theorem zd_52_2 : (zm_c52_2.all fun e => decide (decode (zm_by 52) e.1 = .ok (e.2.1, zm_ln e.2))) = true := by decide +kernel
theorem zd_52_3 : (zm_c52_3.all fun e => decide (decode (zm_by 52) e.1 = .ok (e.2.1, zm_ln e.2))) = true := by decide +kernel
theorem zd_52_4 : (zm_c52_4.all fun e => decide (decode (zm_by 52) e.1 = .ok (e.2.1, zm_ln e.2))) = true := by decide +kernel
theorem zd_52_5 : (zm_c52_5.all fun e => decide (decode (zm_by 52) e.1 = .ok (e.2.1, zm_ln e.2))) = true := by decide +kernel
theorem zd_52_6 : (zm_c52_6.all fun e => decide (decode (zm_by 52) e.1 = .ok (e.2.1, zm_ln e.2))) = true := by decide +kernel
theorem zd_52_7 : (zm_c52_7.all fun e => decide (decode (zm_by 52) e.1 = .ok (e.2.1, zm_ln e.2))) = true := by decide +kernel
theorem zd_53_0 : (zm_c53_0.all fun e => decide (decode (zm_by 53) e.1 = .ok (e.2.1, zm_ln e.2))) = true := by decide +kernel
theorem zd_54_0 : (zm_c54_0.all fun e => decide (decode (zm_by 54) e.1 = .ok (e.2.1, zm_ln e.2))) = true := by decide +kernel
theorem zd_54_1 : (zm_c54_1.all fun e => decide (decode (zm_by 54) e.1 = .ok (e.2.1, zm_ln e.2))) = true := by decide +kernel
theorem zd_55_0 : (zm_c55_0.all fun e => decide (decode (zm_by 55) e.1 = .ok (e.2.1, zm_ln e.2))) = true := by decide +kernel
theorem zd_55_1 : (zm_c55_1.all fun e => decide (decode (zm_by 55) e.1 = .ok (e.2.1, zm_ln e.2))) = true := by decide +kernel
theorem zd_55_2 : (zm_c55_2.all fun e => decide (decode (zm_by 55) e.1 = .ok (e.2.1, zm_ln e.2))) = true := by decide +kernel
theorem zd_56_0 : (zm_c56_0.all fun e => decide (decode (zm_by 56) e.1 = .ok (e.2.1, zm_ln e.2))) = true := by decide +kernel
theorem zd_56_1 : (zm_c56_1.all fun e => decide (decode (zm_by 56) e.1 = .ok (e.2.1, zm_ln e.2))) = true := by decide +kernel
theorem zd_56_2 : (zm_c56_2.all fun e => decide (decode (zm_by 56) e.1 = .ok (e.2.1, zm_ln e.2))) = true := by decide +kernel
theorem zd_56_3 : (zm_c56_3.all fun e => decide (decode (zm_by 56) e.1 = .ok (e.2.1, zm_ln e.2))) = true := by decide +kernel
theorem zd_57_0 : (zm_c57_0.all fun e => decide (decode (zm_by 57) e.1 = .ok (e.2.1, zm_ln e.2))) = true := by decide +kernel
theorem zd_58_0 : (zm_c58_0.all fun e => decide (decode (zm_by 58) e.1 = .ok (e.2.1, zm_ln e.2))) = true := by decide +kernel
theorem zd_58_1 : (zm_c58_1.all fun e => decide (decode (zm_by 58) e.1 = .ok (e.2.1, zm_ln e.2))) = true := by decide +kernel
theorem zd_58_2 : (zm_c58_2.all fun e => decide (decode (zm_by 58) e.1 = .ok (e.2.1, zm_ln e.2))) = true := by decide +kernel
theorem zd_58_3 : (zm_c58_3.all fun e => decide (decode (zm_by 58) e.1 = .ok (e.2.1, zm_ln e.2))) = true := by decide +kernel
theorem zd_58_4 : (zm_c58_4.all fun e => decide (decode (zm_by 58) e.1 = .ok (e.2.1, zm_ln e.2))) = true := by decide +kernel
theorem zd_59_0 : (zm_c59_0.all fun e => decide (decode (zm_by 59) e.1 = .ok (e.2.1, zm_ln e.2))) = true := by decide +kernel
theorem zd_59_1 : (zm_c59_1.all fun e => decide (decode (zm_by 59) e.1 = .ok (e.2.1, zm_ln e.2))) = true := by decide +kernel
theorem zd_59_2 : (zm_c59_2.all fun e => decide (decode (zm_by 59) e.1 = .ok (e.2.1, zm_ln e.2))) = true := by decide +kernel
theorem zd_59_3 : (zm_c59_3.all fun e => decide (decode (zm_by 59) e.1 = .ok (e.2.1, zm_ln e.2))) = true := by decide +kernel
theorem zd_59_4 : (zm_c59_4.all fun e => decide (decode (zm_by 59) e.1 = .ok (e.2.1, zm_ln e.2))) = true := by decide +kernel
theorem zd_59_5 : (zm_c59_5.all fun e => decide (decode (zm_by 59) e.1 = .ok (e.2.1, zm_ln e.2))) = true := by decide +kernel
theorem zd_59_6 : (zm_c59_6.all fun e => decide (decode (zm_by 59) e.1 = .ok (e.2.1, zm_ln e.2))) = true := by decide +kernel
theorem zd_60_0 : (zm_c60_0.all fun e => decide (decode (zm_by 60) e.1 = .ok (e.2.1, zm_ln e.2))) = true := by decide +kernel
theorem zd_61_0 : (zm_c61_0.all fun e => decide (decode (zm_by 61) e.1 = .ok (e.2.1, zm_ln e.2))) = true := by decide +kernel
theorem zd_61_1 : (zm_c61_1.all fun e => decide (decode (zm_by 61) e.1 = .ok (e.2.1, zm_ln e.2))) = true := by decide +kernel
theorem zd_61_2 : (zm_c61_2.all fun e => decide (decode (zm_by 61) e.1 = .ok (e.2.1, zm_ln e.2))) = true := by decide +kernel
theorem zd_62_0 : (zm_c62_0.all fun e => decide (decode (zm_by 62) e.1 = .ok (e.2.1, zm_ln e.2))) = true := by decide +kernel
theorem zd_62_1 : (zm_c62_1.all fun e => decide (decode (zm_by 62) e.1 = .ok (e.2.1, zm_ln e.2))) = true := by decide +kernel
theorem zd_63_0 : (zm_c63_0.all fun e => decide (decode (zm_by 63) e.1 = .ok (e.2.1, zm_ln e.2))) = true := by decide +kernel
theorem zd_63_1 : (zm_c63_1.all fun e => decide (decode (zm_by 63) e.1 = .ok (e.2.1, zm_ln e.2))) = true := by decide +kernel
theorem zd_63_2 : (zm_c63_2.all fun e => decide (decode (zm_by 63) e.1 = .ok (e.2.1, zm_ln e.2))) = true := by decide +kernel
theorem zd_63_3 : (zm_c63_3.all fun e => decide (decode (zm_by 63) e.1 = .ok (e.2.1, zm_ln e.2))) = true := by decide +kernel
theorem zd_64_0 : (zm_c64_0.all fun e => decide (decode (zm_by 64) e.1 = .ok (e.2.1, zm_ln e.2))) = true := by decide +kernel
theorem zd_64_1 : (zm_c64_1.all fun e => decide (decode (zm_by 64) e.1 = .ok (e.2.1, zm_ln e.2))) = true := by decide +kernel
theorem zd_64_2 : (zm_c64_2.all fun e => decide (decode (zm_by 64) e.1 = .ok (e.2.1, zm_ln e.2))) = true := by decide +kernel
theorem zd_65_0 : (zm_c65_0.all fun e => decide (decode (zm_by 65) e.1 = .ok (e.2.1, zm_ln e.2))) = true := by decide +kernel
theorem zd_65_1 : (zm_c65_1.all fun e => decide (decode (zm_by 65) e.1 = .ok (e.2.1, zm_ln e.2))) = true := by decide +kernel
theorem zd_66_0 : (zm_c66_0.all fun e => decide (decode (zm_by 66) e.1 = .ok (e.2.1, zm_ln e.2))) = true := by decide +kernel
theorem zd_66_1 : (zm_c66_1.all fun e => decide (decode (zm_by 66) e.1 = .ok (e.2.1, zm_ln e.2))) = true := by decide +kernel
theorem zd_66_2 : (zm_c66_2.all fun e => decide (decode (zm_by 66) e.1 = .ok (e.2.1, zm_ln e.2))) = true := by decide +kernel
theorem zd_66_3 : (zm_c66_3.all fun e => decide (decode (zm_by 66) e.1 = .ok (e.2.1, zm_ln e.2))) = true := by decide +kernel
theorem zd_67_0 : (zm_c67_0.all fun e => decide (decode (zm_by 67) e.1 = .ok (e.2.1, zm_ln e.2))) = true := by decide +kernel
theorem zd_67_1 : (zm_c67_1.all fun e => decide (decode (zm_by 67) e.1 = .ok (e.2.1, zm_ln e.2))) = true := by decide +kernel
theorem zd_67_2 : (zm_c67_2.all fun e => decide (decode (zm_by 67) e.1 = .ok (e.2.1, zm_ln e.2))) = true := by decide +kernel
theorem zd_68_0 : (zm_c68_0.all fun e => decide (decode (zm_by 68) e.1 = .ok (e.2.1, zm_ln e.2))) = true := by decide +kernel
theorem zd_68_1 : (zm_c68_1.all fun e => decide (decode (zm_by 68) e.1 = .ok (e.2.1, zm_ln e.2))) = true := by decide +kernel
theorem zd_69_0 : (zm_c69_0.all fun e => decide (decode (zm_by 69) e.1 = .ok (e.2.1, zm_ln e.2))) = true := by decide +kernel
theorem zd_69_1 : (zm_c69_1.all fun e => decide (decode (zm_by 69) e.1 = .ok (e.2.1, zm_ln e.2))) = true := by decide +kernel
theorem zd_69_2 : (zm_c69_2.all fun e => decide (decode (zm_by 69) e.1 = .ok (e.2.1, zm_ln e.2))) = true := by decide +kernel
theorem zd_70_0 : (zm_c70_0.all fun e => decide (decode (zm_by 70) e.1 = .ok (e.2.1, zm_ln e.2))) = true := by decide +kernel
theorem zd_70_1 : (zm_c70_1.all fun e => decide (decode (zm_by 70) e.1 = .ok (e.2.1, zm_ln e.2))) = true := by decide +kernel
theorem zd_70_2 : (zm_c70_2.all fun e => decide (decode (zm_by 70) e.1 = .ok (e.2.1, zm_ln e.2))) = true := by decide +kernel
theorem zd_70_3 : (zm_c70_3.all fun e => decide (decode (zm_by 70) e.1 = .ok (e.2.1, zm_ln e.2))) = true := by decide +kernel
theorem zd_70_4 : (zm_c70_4.all fun e => decide (decode (zm_by 70) e.1 = .ok (e.2.1, zm_ln e.2))) = true := by decide +kernel
theorem zd_70_5 : (zm_c70_5.all fun e => decide (decode (zm_by 70) e.1 = .ok (e.2.1, zm_ln e.2))) = true := by decide +kernel
theorem zd_70_6 : (zm_c70_6.all fun e => decide (decode (zm_by 70) e.1 = .ok (e.2.1, zm_ln e.2))) = true := by decide +kernel
theorem zd_70_7 : (zm_c70_7.all fun e => decide (decode (zm_by 70) e.1 = .ok (e.2.1, zm_ln e.2))) = true := by decide +kernel
theorem zd_70_8 : (zm_c70_8.all fun e => decide (decode (zm_by 70) e.1 = .ok (e.2.1, zm_ln e.2))) = true := by decide +kernel
theorem zd_70_9 : (zm_c70_9.all fun e => decide (decode (zm_by 70) e.1 = .ok (e.2.1, zm_ln e.2))) = true := by decide +kernel
theorem zd_70_10 : (zm_c70_10.all fun e => decide (decode (zm_by 70) e.1 = .ok (e.2.1, zm_ln e.2))) = true := by decide +kernel
theorem zd_70_11 : (zm_c70_11.all fun e => decide (decode (zm_by 70) e.1 = .ok (e.2.1, zm_ln e.2))) = true := by decide +kernel
theorem zd_70_12 : (zm_c70_12.all fun e => decide (decode (zm_by 70) e.1 = .ok (e.2.1, zm_ln e.2))) = true := by decide +kernel
theorem zd_70_13 : (zm_c70_13.all fun e => decide (decode (zm_by 70) e.1 = .ok (e.2.1, zm_ln e.2))) = true := by decide +kernel
theorem zd_70_14 : (zm_c70_14.all fun e => decide (decode (zm_by 70) e.1 = .ok (e.2.1, zm_ln e.2))) = true := by decide +kernel
theorem zd_70_15 : (zm_c70_15.all fun e => decide (decode (zm_by 70) e.1 = .ok (e.2.1, zm_ln e.2))) = true := by decide +kernel
theorem zd_70_16 : (zm_c70_16.all fun e => decide (decode (zm_by 70) e.1 = .ok (e.2.1, zm_ln e.2))) = true := by decide +kernel
theorem zd_71_0 : (zm_c71_0.all fun e => decide (decode (zm_by 71) e.1 = .ok (e.2.1, zm_ln e.2))) = true := by decide +kernel
theorem zd_71_1 : (zm_c71_1.all fun e => decide (decode (zm_by 71) e.1 = .ok (e.2.1, zm_ln e.2))) = true := by decide +kernel
theorem zd_71_2 : (zm_c71_2.all fun e => decide (decode (zm_by 71) e.1 = .ok (e.2.1, zm_ln e.2))) = true := by decide +kernel
theorem zd_71_3 : (zm_c71_3.all fun e => decide (decode (zm_by 71) e.1 = .ok (e.2.1, zm_ln e.2))) = true := by decide +kernel
theorem zd_71_4 : (zm_c71_4.all fun e => decide (decode (zm_by 71) e.1 = .ok (e.2.1, zm_ln e.2))) = true := by decide +kernel
theorem zd_71_5 : (zm_c71_5.all fun e => decide (decode (zm_by 71) e.1 = .ok (e.2.1, zm_ln e.2))) = true := by decide +kernel
theorem zd_71_6 : (zm_c71_6.all fun e => decide (decode (zm_by 71) e.1 = .ok (e.2.1, zm_ln e.2))) = true := by decide +kernel
theorem zd_71_7 : (zm_c71_7.all fun e => decide (decode (zm_by 71) e.1 = .ok (e.2.1, zm_ln e.2))) = true := by decide +kernel
theorem zd_71_8 : (zm_c71_8.all fun e => decide (decode (zm_by 71) e.1 = .ok (e.2.1, zm_ln e.2))) = true := by decide +kernel
theorem zd_71_9 : (zm_c71_9.all fun e => decide (decode (zm_by 71) e.1 = .ok (e.2.1, zm_ln e.2))) = true := by decide +kernel
theorem zd_71_10 : (zm_c71_10.all fun e => decide (decode (zm_by 71) e.1 = .ok (e.2.1, zm_ln e.2))) = true := by decide +kernel
end
section
theorem zd_71_11 : (zm_c71_11.all fun e => decide (decode (zm_by 71) e.1 = .ok (e.2.1, zm_ln e.2))) = true := by decide +kernel
theorem zd_71_12 : (zm_c71_12.all fun e => decide (decode (zm_by 71) e.1 = .ok (e.2.1, zm_ln e.2))) = true := by decide +kernel
theorem zd_72_0 : (zm_c72_0.all fun e => decide (decode (zm_by 72) e.1 = .ok (e.2.1, zm_ln e.2))) = true := by decide +kernel
theorem zd_72_1 : (zm_c72_1.all fun e => decide (decode (zm_by 72) e.1 = .ok (e.2.1, zm_ln e.2))) = true := by decide +kernel
theorem zd_73_0 : (zm_c73_0.all fun e => decide (decode (zm_by 73) e.1 = .ok (e.2.1, zm_ln e.2))) = true := by decide +kernel
theorem zd_73_1 : (zm_c73_1.all fun e => decide (decode (zm_by 73) e.1 = .ok (e.2.1, zm_ln e.2))) = true := by decide +kernel
theorem zd_73_2 : (zm_c73_2.all fun e => decide (decode (zm_by 73) e.1 = .ok (e.2.1, zm_ln e.2))) = true := by decide +kernel
theorem zd_74_0 : (zm_c74_0.all fun e => decide (decode (zm_by 74) e.1 = .ok (e.2.1, zm_ln e.2))) = true := by decide +kernel
theorem zd_75_0 : (zm_c75_0.all fun e => decide (decode (zm_by 75) e.1 = .ok (e.2.1, zm_ln e.2))) = true := by decide +kernel
theorem zd_75_1 : (zm_c75_1.all fun e => decide (decode (zm_by 75) e.1 = .ok (e.2.1, zm_ln e.2))) = true := by decide +kernel
theorem zd_75_2 : (zm_c75_2.all fun e => decide (decode (zm_by 75) e.1 = .ok (e.2.1, zm_ln e.2))) = true := by decide +kernel
theorem zd_75_3 : (zm_c75_3.all fun e => decide (decode (zm_by 75) e.1 = .ok (e.2.1, zm_ln e.2))) = true := by decide +kernel
theorem zd_75_4 : (zm_c75_4.all fun e => decide (decode (zm_by 75) e.1 = .ok (e.2.1, zm_ln e.2))) = true := by decide +kernel
theorem zd_75_5 : (zm_c75_5.all fun e => decide (decode (zm_by 75) e.1 = .ok (e.2.1, zm_ln e.2))) = true := by decide +kernel
theorem zd_75_6 : (zm_c75_6.all fun e => decide (decode (zm_by 75) e.1 = .ok (e.2.1, zm_ln e.2))) = true := by decide +kernel
theorem zd_75_7 : (zm_c75_7.all fun e => decide (decode (zm_by 75) e.1 = .ok (e.2.1, zm_ln e.2))) = true := by decide +kernel
theorem zd_75_8 : (zm_c75_8.all fun e => decide (decode (zm_by 75) e.1 = .ok (e.2.1, zm_ln e.2))) = true := by decide +kernel
theorem zd_75_9 : (zm_c75_9.all fun e => decide (decode (zm_by 75) e.1 = .ok (e.2.1, zm_ln e.2))) = true := by decide +kernel
theorem zd_75_10 : (zm_c75_10.all fun e => decide (decode (zm_by 75) e.1 = .ok (e.2.1, zm_ln e.2))) = true := by decide +kernel
theorem zd_75_11 : (zm_c75_11.all fun e => decide (decode (zm_by 75) e.1 = .ok (e.2.1, zm_ln e.2))) = true := by decide +kernel
theorem zd_75_12 : (zm_c75_12.all fun e => decide (decode (zm_by 75) e.1 = .ok (e.2.1, zm_ln e.2))) = true := by decide +kernel
theorem zd_75_13 : (zm_c75_13.all fun e => decide (decode (zm_by 75) e.1 = .ok (e.2.1, zm_ln e.2))) = true := by decide +kernel
theorem zd_75_14 : (zm_c75_14.all fun e => decide (decode (zm_by 75) e.1 = .ok (e.2.1, zm_ln e.2))) = true := by decide +kernel
theorem zd_75_15 : (zm_c75_15.all fun e => decide (decode (zm_by 75) e.1 = .ok (e.2.1, zm_ln e.2))) = true := by decide +kernel
theorem zd_75_16 : (zm_c75_16.all fun e => decide (decode (zm_by 75) e.1 = .ok (e.2.1, zm_ln e.2))) = true := by decide +kernel
theorem zd_75_17 : (zm_c75_17.all fun e => decide (decode (zm_by 75) e.1 = .ok (e.2.1, zm_ln e.2))) = true := by decide +kernel
theorem zd_75_18 : (zm_c75_18.all fun e => decide (decode (zm_by 75) e.1 = .ok (e.2.1, zm_ln e.2))) = true := by decide +kernel
theorem zd_76_0 : (zm_c76_0.all fun e => decide (decode (zm_by 76) e.1 = .ok (e.2.1, zm_ln e.2))) = true := by decide +kernel
theorem zd_76_1 : (zm_c76_1.all fun e => decide (decode (zm_by 76) e.1 = .ok (e.2.1, zm_ln e.2))) = true := by decide +kernel
theorem zd_76_2 : (zm_c76_2.all fun e => decide (decode (zm_by 76) e.1 = .ok (e.2.1, zm_ln e.2))) = true := by decide +kernel
theorem zd_76_3 : (zm_c76_3.all fun e => decide (decode (zm_by 76) e.1 = .ok (e.2.1, zm_ln e.2))) = true := by decide +kernel
theorem zd_76_4 : (zm_c76_4.all fun e => decide (decode (zm_by 76) e.1 = .ok (e.2.1, zm_ln e.2))) = true := by decide +kernel
theorem zd_76_5 : (zm_c76_5.all fun e => decide (decode (zm_by 76) e.1 = .ok (e.2.1, zm_ln e.2))) = true := by decide +kernel
theorem zd_76_6 : (zm_c76_6.all fun e => decide (decode (zm_by 76) e.1 = .ok (e.2.1, zm_ln e.2))) = true := by decide +kernel
theorem zd_76_7 : (zm_c76_7.all fun e => decide (decode (zm_by 76) e.1 = .ok (e.2.1, zm_ln e.2))) = true := by decide +kernel
theorem zd_76_8 : (zm_c76_8.all fun e => decide (decode (zm_by 76) e.1 = .ok (e.2.1, zm_ln e.2))) = true := by decide +kernel
theorem zd_76_9 : (zm_c76_9.all fun e => decide (decode (zm_by 76) e.1 = .ok (e.2.1, zm_ln e.2))) = true := by decide +kernel
theorem zd_76_10 : (zm_c76_10.all fun e => decide (decode (zm_by 76) e.1 = .ok (e.2.1, zm_ln e.2))) = true := by decide +kernel
theorem zd_76_11 : (zm_c76_11.all fun e => decide (decode (zm_by 76) e.1 = .ok (e.2.1, zm_ln e.2))) = true := by decide +kernel
theorem zd_77_0 : (zm_c77_0.all fun e => decide (decode (zm_by 77) e.1 = .ok (e.2.1, zm_ln e.2))) = true := by decide +kernel
theorem zd_77_1 : (zm_c77_1.all fun e => decide (decode (zm_by 77) e.1 = .ok (e.2.1, zm_ln e.2))) = true := by decide +kernel
theorem zd_77_2 : (zm_c77_2.all fun e => decide (decode (zm_by 77) e.1 = .ok (e.2.1, zm_ln e.2))) = true := by decide +kernel
theorem zd_78_0 : (zm_c78_0.all fun e => decide (decode (zm_by 78) e.1 = .ok (e.2.1, zm_ln e.2))) = true := by decide +kernel
theorem zd_78_1 : (zm_c78_1.all fun e => decide (decode (zm_by 78) e.1 = .ok (e.2.1, zm_ln e.2))) = true := by decide +kernel
theorem zd_78_2 : (zm_c78_2.all fun e => decide (decode (zm_by 78) e.1 = .ok (e.2.1, zm_ln e.2))) = true := by decide +kernel
theorem zd_78_3 : (zm_c78_3.all fun e => decide (decode (zm_by 78) e.1 = .ok (e.2.1, zm_ln e.2))) = true := by decide +kernel
theorem zd_78_4 : (zm_c78_4.all fun e => decide (decode (zm_by 78) e.1 = .ok (e.2.1, zm_ln e.2))) = true := by decide +kernel
theorem zd_78_5 : (zm_c78_5.all fun e => decide (decode (zm_by 78) e.1 = .ok (e.2.1, zm_ln e.2))) = true := by decide +kernel
theorem zd_78_6 : (zm_c78_6.all fun e => decide (decode (zm_by 78) e.1 = .ok (e.2.1, zm_ln e.2))) = true := by decide +kernel
theorem zd_78_7 : (zm_c78_7.all fun e => decide (decode (zm_by 78) e.1 = .ok (e.2.1, zm_ln e.2))) = true := by decide +kernel
theorem zd_78_8 : (zm_c78_8.all fun e => decide (decode (zm_by 78) e.1 = .ok (e.2.1, zm_ln e.2))) = true := by decide +kernel
theorem zd_78_9 : (zm_c78_9.all fun e => decide (decode (zm_by 78) e.1 = .ok (e.2.1, zm_ln e.2))) = true := by decide +kernel
theorem zd_78_10 : (zm_c78_10.all fun e => decide (decode (zm_by 78) e.1 = .ok (e.2.1, zm_ln e.2))) = true := by decide +kernel
theorem zd_78_11 : (zm_c78_11.all fun e => decide (decode (zm_by 78) e.1 = .ok (e.2.1, zm_ln e.2))) = true := by decide +kernel
theorem zd_78_12 : (zm_c78_12.all fun e => decide (decode (zm_by 78) e.1 = .ok (e.2.1, zm_ln e.2))) = true := by decide +kernel
theorem zd_79_0 : (zm_c79_0.all fun e => decide (decode (zm_by 79) e.1 = .ok (e.2.1, zm_ln e.2))) = true := by decide +kernel
theorem zd_79_1 : (zm_c79_1.all fun e => decide (decode (zm_by 79) e.1 = .ok (e.2.1, zm_ln e.2))) = true := by decide +kernel
theorem zd_79_2 : (zm_c79_2.all fun e => decide (decode (zm_by 79) e.1 = .ok (e.2.1, zm_ln e.2))) = true := by decide +kernel
theorem zd_79_3 : (zm_c79_3.all fun e => decide (decode (zm_by 79) e.1 = .ok (e.2.1, zm_ln e.2))) = true := by decide +kernel
theorem zd_79_4 : (zm_c79_4.all fun e => decide (decode (zm_by 79) e.1 = .ok (e.2.1, zm_ln e.2))) = true := by decide +kernel
theorem zd_79_5 : (zm_c79_5.all fun e => decide (decode (zm_by 79) e.1 = .ok (e.2.1, zm_ln e.2))) = true := by decide +kernel
theorem zd_79_6 : (zm_c79_6.all fun e => decide (decode (zm_by 79) e.1 = .ok (e.2.1, zm_ln e.2))) = true := by decide +kernel
theorem zd_79_7 : (zm_c79_7.all fun e => decide (decode (zm_by 79) e.1 = .ok (e.2.1, zm_ln e.2))) = true := by decide +kernel
theorem zd_79_8 : (zm_c79_8.all fun e => decide (decode (zm_by 79) e.1 = .ok (e.2.1, zm_ln e.2))) = true := by decide +kernel
theorem zd_79_9 : (zm_c79_9.all fun e => decide (decode (zm_by 79) e.1 = .ok (e.2.1, zm_ln e.2))) = true := by decide +kernel
theorem zd_79_10 : (zm_c79_10.all fun e => decide (decode (zm_by 79) e.1 = .ok (e.2.1, zm_ln e.2))) = true := by decide +kernel
theorem zd_79_11 : (zm_c79_11.all fun e => decide (decode (zm_by 79) e.1 = .ok (e.2.1, zm_ln e.2))) = true := by decide +kernel
theorem zd_80_0 : (zm_c80_0.all fun e => decide (decode (zm_by 80) e.1 = .ok (e.2.1, zm_ln e.2))) = true := by decide +kernel
theorem zd_80_1 : (zm_c80_1.all fun e => decide (decode (zm_by 80) e.1 = .ok (e.2.1, zm_ln e.2))) = true := by decide +kernel
theorem zd_80_2 : (zm_c80_2.all fun e => decide (decode (zm_by 80) e.1 = .ok (e.2.1, zm_ln e.2))) = true := by decide +kernel
theorem zd_80_3 : (zm_c80_3.all fun e => decide (decode (zm_by 80) e.1 = .ok (e.2.1, zm_ln e.2))) = true := by decide +kernel
theorem zd_80_4 : (zm_c80_4.all fun e => decide (decode (zm_by 80) e.1 = .ok (e.2.1, zm_ln e.2))) = true := by decide +kernel
theorem zd_81_0 : (zm_c81_0.all fun e => decide (decode (zm_by 81) e.1 = .ok (e.2.1, zm_ln e.2))) = true := by decide +kernel
theorem zd_81_1 : (zm_c81_1.all fun e => decide (decode (zm_by 81) e.1 = .ok (e.2.1, zm_ln e.2))) = true := by decide +kernel
theorem zd_81_2 : (zm_c81_2.all fun e => decide (decode (zm_by 81) e.1 = .ok (e.2.1, zm_ln e.2))) = true := by decide +kernel
theorem zd_81_3 : (zm_c81_3.all fun e => decide (decode (zm_by 81) e.1 = .ok (e.2.1, zm_ln e.2))) = true := by decide +kernel
theorem zd_81_4 : (zm_c81_4.all fun e => decide (decode (zm_by 81) e.1 = .ok (e.2.1, zm_ln e.2))) = true := by decide +kernel
theorem zd_81_5 : (zm_c81_5.all fun e => decide (decode (zm_by 81) e.1 = .ok (e.2.1, zm_ln e.2))) = true := by decide +kernel
theorem zd_81_6 : (zm_c81_6.all fun e => decide (decode (zm_by 81) e.1 = .ok (e.2.1, zm_ln e.2))) = true := by decide +kernel
theorem zd_81_7 : (zm_c81_7.all fun e => decide (decode (zm_by 81) e.1 = .ok (e.2.1, zm_ln e.2))) = true := by decide +kernel
theorem zd_82_0 : (zm_c82_0.all fun e => decide (decode (zm_by 82) e.1 = .ok (e.2.1, zm_ln e.2))) = true := by decide +kernel
theorem zd_82_1 : (zm_c82_1.all fun e => decide (decode (zm_by 82) e.1 = .ok (e.2.1, zm_ln e.2))) = true := by decide +kernel
theorem zd_82_2 : (zm_c82_2.all fun e => decide (decode (zm_by 82) e.1 = .ok (e.2.1, zm_ln e.2))) = true := by decide +kernel
theorem zd_82_3 : (zm_c82_3.all fun e => decide (decode (zm_by 82) e.1 = .ok (e.2.1, zm_ln e.2))) = true := by decide +kernel
theorem zd_82_4 : (zm_c82_4.all fun e => decide (decode (zm_by 82) e.1 = .ok (e.2.1, zm_ln e.2))) = true := by decide +kernel
theorem zd_82_5 : (zm_c82_5.all fun e => decide (decode (zm_by 82) e.1 = .ok (e.2.1, zm_ln e.2))) = true := by decide +kernel
theorem zd_82_6 : (zm_c82_6.all fun e => decide (decode (zm_by 82) e.1 = .ok (e.2.1, zm_ln e.2))) = true := by decide +kernel
theorem zd_82_7 : (zm_c82_7.all fun e => decide (decode (zm_by 82) e.1 = .ok (e.2.1, zm_ln e.2))) = true := by decide +kernel
theorem zd_82_8 : (zm_c82_8.all fun e => decide (decode (zm_by 82) e.1 = .ok (e.2.1, zm_ln e.2))) = true := by decide +kernel
theorem zd_82_9 : (zm_c82_9.all fun e => decide (decode (zm_by 82) e.1 = .ok (e.2.1, zm_ln e.2))) = true := by decide +kernel
theorem zd_82_10 : (zm_c82_10.all fun e => decide (decode (zm_by 82) e.1 = .ok (e.2.1, zm_ln e.2))) = true := by decide +kernel
theorem zd_82_11 : (zm_c82_11.all fun e => decide (decode (zm_by 82) e.1 = .ok (e.2.1, zm_ln e.2))) = true := by decide +kernel
theorem zd_82_12 : (zm_c82_12.all fun e => decide (decode (zm_by 82) e.1 = .ok (e.2.1, zm_ln e.2))) = true := by decide +kernel
theorem zd_83_0 : (zm_c83_0.all fun e => decide (decode (zm_by 83) e.1 = .ok (e.2.1, zm_ln e.2))) = true := by decide +kernel
theorem zd_83_1 : (zm_c83_1.all fun e => decide (decode (zm_by 83) e.1 = .ok (e.2.1, zm_ln e.2))) = true := by decide +kernel
theorem zd_83_2 : (zm_c83_2.all fun e => decide (decode (zm_by 83) e.1 = .ok (e.2.1, zm_ln e.2))) = true := by decide +kernel
theorem zd_83_3 : (zm_c83_3.all fun e => decide (decode (zm_by 83) e.1 = .ok (e.2.1, zm_ln e.2))) = true := by decide +kernel
theorem zd_84_0 : (zm_c84_0.all fun e => decide (decode (zm_by 84) e.1 = .ok (e.2.1, zm_ln e.2))) = true := by decide +kernel
theorem zd_84_1 : (zm_c84_1.all fun e => decide (decode (zm_by 84) e.1 = .ok (e.2.1, zm_ln e.2))) = true := by decide +kernel
theorem zd_84_2 : (zm_c84_2.all fun e => decide (decode (zm_by 84) e.1 = .ok (e.2.1, zm_ln e.2))) = true := by decide +kernel
theorem zd_85_0 : (zm_c85_0.all fun e => decide (decode (zm_by 85) e.1 = .ok (e.2.1, zm_ln e.2))) = true := by decide +kernel
theorem zd_85_1 : (zm_c85_1.all fun e => decide (decode (zm_by 85) e.1 = .ok (e.2.1, zm_ln e.2))) = true := by decide +kernel
theorem zd_85_2 : (zm_c85_2.all fun e => decide (decode (zm_by 85) e.1 = .ok (e.2.1, zm_ln e.2))) = true := by decide +kernel
theorem zd_85_3 : (zm_c85_3.all fun e => decide (decode (zm_by 85) e.1 = .ok (e.2.1, zm_ln e.2))) = true := by decide +kernel
theorem zd_85_4 : (zm_c85_4.all fun e => decide (decode (zm_by 85) e.1 = .ok (e.2.1, zm_ln e.2))) = true := by decide +kernel
theorem zd_85_5 : (zm_c85_5.all fun e => decide (decode (zm_by 85) e.1 = .ok (e.2.1, zm_ln e.2))) = true := by decide +kernel
theorem zd_85_6 : (zm_c85_6.all fun e => decide (decode (zm_by 85) e.1 = .ok (e.2.1, zm_ln e.2))) = true := by decide +kernel
theorem zd_85_7 : (zm_c85_7.all fun e => decide (decode (zm_by 85) e.1 = .ok (e.2.1, zm_ln e.2))) = true := by decide +kernel
theorem zd_86_0 : (zm_c86_0.all fun e => decide (decode (zm_by 86) e.1 = .ok (e.2.1, zm_ln e.2))) = true := by decide +kernel
theorem zd_86_1 : (zm_c86_1.all fun e => decide (decode (zm_by 86) e.1 = .ok (e.2.1, zm_ln e.2))) = true := by decide +kernel
theorem zd_86_2 : (zm_c86_2.all fun e => decide (decode (zm_by 86) e.1 = .ok (e.2.1, zm_ln e.2))) = true := by decide +kernel
theorem zd_86_3 : (zm_c86_3.all fun e => decide (decode (zm_by 86) e.1 = .ok (e.2.1, zm_ln e.2))) = true := by decide +kernel
theorem zd_86_4 : (zm_c86_4.all fun e => decide (decode (zm_by 86) e.1 = .ok (e.2.1, zm_ln e.2))) = true := by decide +kernel
theorem zd_86_5 : (zm_c86_5.all fun e => decide (decode (zm_by 86) e.1 = .ok (e.2.1, zm_ln e.2))) = true := by decide +kernel
theorem zd_86_6 : (zm_c86_6.all fun e => decide (decode (zm_by 86) e.1 = .ok (e.2.1, zm_ln e.2))) = true := by decide +kernel
theorem zd_86_7 : (zm_c86_7.all fun e => decide (decode (zm_by 86) e.1 = .ok (e.2.1, zm_ln e.2))) = true := by decide +kernel
theorem zd_86_8 : (zm_c86_8.all fun e => decide (decode (zm_by 86) e.1 = .ok (e.2.1, zm_ln e.2))) = true := by decide +kernel
theorem zd_86_9 : (zm_c86_9.all fun e => decide (decode (zm_by 86) e.1 = .ok (e.2.1, zm_ln e.2))) = true := by decide +kernel
theorem zd_86_10 : (zm_c86_10.all fun e => decide (decode (zm_by 86) e.1 = .ok (e.2.1, zm_ln e.2))) = true := by decide +kernel
theorem zd_86_11 : (zm_c86_11.all fun e => decide (decode (zm_by 86) e.1 = .ok (e.2.1, zm_ln e.2))) = true := by decide +kernel
theorem zd_86_12 : (zm_c86_12.all fun e => decide (decode (zm_by 86) e.1 = .ok (e.2.1, zm_ln e.2))) = true := by decide +kernel
theorem zd_86_13 : (zm_c86_13.all fun e => decide (decode (zm_by 86) e.1 = .ok (e.2.1, zm_ln e.2))) = true := by decide +kernel
theorem zd_86_14 : (zm_c86_14.all fun e => decide (decode (zm_by 86) e.1 = .ok (e.2.1, zm_ln e.2))) = true := by decide +kernel
theorem zd_86_15 : (zm_c86_15.all fun e => decide (decode (zm_by 86) e.1 = .ok (e.2.1, zm_ln e.2))) = true := by decide +kernel
theorem zd_86_16 : (zm_c86_16.all fun e => decide (decode (zm_by 86) e.1 = .ok (e.2.1, zm_ln e.2))) = true := by decide +kernel
theorem zd_86_17 : (zm_c86_17.all fun e => decide (decode (zm_by 86) e.1 = .ok (e.2.1, zm_ln e.2))) = true := by decide +kernel
theorem zd_86_18 : (zm_c86_18.all fun e => decide (decode (zm_by 86) e.1 = .ok (e.2.1, zm_ln e.2))) = true := by decide +kernel
theorem zd_86_19 : (zm_c86_19.all fun e => decide (decode (zm_by 86) e.1 = .ok (e.2.1, zm_ln e.2))) = true := by decide +kernel
theorem zd_86_20 : (zm_c86_20.all fun e => decide (decode (zm_by 86) e.1 = .ok (e.2.1, zm_ln e.2))) = true := by decide +kernel
theorem zd_86_21 : (zm_c86_21.all fun e => decide (decode (zm_by 86) e.1 = .ok (e.2.1, zm_ln e.2))) = true := by decide +kernel
theorem zd_86_22 : (zm_c86_22.all fun e => decide (decode (zm_by 86) e.1 = .ok (e.2.1, zm_ln e.2))) = true := by decide +kernel
theorem zd_87_0 : (zm_c87_0.all fun e => decide (decode (zm_by 87) e.1 = .ok (e.2.1, zm_ln e.2))) = true := by decide +kernel
theorem zd_87_1 : (zm_c87_1.all fun e => decide (decode (zm_by 87) e.1 = .ok (e.2.1, zm_ln e.2))) = true := by decide +kernel
theorem zd_87_2 : (zm_c87_2.all fun e => decide (decode (zm_by 87) e.1 = .ok (e.2.1, zm_ln e.2))) = true := by decide +kernel
theorem zd_87_3 : (zm_c87_3.all fun e => decide (decode (zm_by 87) e.1 = .ok (e.2.1, zm_ln e.2))) = true := by decide +kernel
theorem zd_87_4 : (zm_c87_4.all fun e => decide (decode (zm_by 87) e.1 = .ok (e.2.1, zm_ln e.2))) = true := by decide +kernel
theorem zd_87_5 : (zm_c87_5.all fun e => decide (decode (zm_by 87) e.1 = .ok (e.2.1, zm_ln e.2))) = true := by decide +kernel
theorem zd_88_0 : (zm_c88_0.all fun e => decide (decode (zm_by 88) e.1 = .ok (e.2.1, zm_ln e.2))) = true := by decide +kernel
theorem zd_88_1 : (zm_c88_1.all fun e => decide (decode (zm_by 88) e.1 = .ok (e.2.1, zm_ln e.2))) = true := by decide +kernel
theorem zd_88_2 : (zm_c88_2.all fun e => decide (decode (zm_by 88) e.1 = .ok (e.2.1, zm_ln e.2))) = true := by decide +kernel
theorem zd_89_0 : (zm_c89_0.all fun e => decide (decode (zm_by 89) e.1 = .ok (e.2.1, zm_ln e.2))) = true := by decide +kernel
theorem zd_89_1 : (zm_c89_1.all fun e => decide (decode (zm_by 89) e.1 = .ok (e.2.1, zm_ln e.2))) = true := by decide +kernel
theorem zd_89_2 : (zm_c89_2.all fun e => decide (decode (zm_by 89) e.1 = .ok (e.2.1, zm_ln e.2))) = true := by decide +kernel
theorem zd_90_0 : (zm_c90_0.all fun e => decide (decode (zm_by 90) e.1 = .ok (e.2.1, zm_ln e.2))) = true := by decide +kernel
theorem zd_90_1 : (zm_c90_1.all fun e => decide (decode (zm_by 90) e.1 = .ok (e.2.1, zm_ln e.2))) = true := by decide +kernel
theorem zd_90_2 : (zm_c90_2.all fun e => decide (decode (zm_by 90) e.1 = .ok (e.2.1, zm_ln e.2))) = true := by decide +kernel
theorem zd_90_3 : (zm_c90_3.all fun e => decide (decode (zm_by 90) e.1 = .ok (e.2.1, zm_ln e.2))) = true := by decide +kernel
theorem zd_90_4 : (zm_c90_4.all fun e => decide (decode (zm_by 90) e.1 = .ok (e.2.1, zm_ln e.2))) = true := by decide +kernel
theorem zd_90_5 : (zm_c90_5.all fun e => decide (decode (zm_by 90) e.1 = .ok (e.2.1, zm_ln e.2))) = true := by decide +kernel
theorem zd_90_6 : (zm_c90_6.all fun e => decide (decode (zm_by 90) e.1 = .ok (e.2.1, zm_ln e.2))) = true := by decide +kernel
theorem zd_90_7 : (zm_c90_7.all fun e => decide (decode (zm_by 90) e.1 = .ok (e.2.1, zm_ln e.2))) = true := by decide +kernel
theorem zd_90_8 : (zm_c90_8.all fun e => decide (decode (zm_by 90) e.1 = .ok (e.2.1, zm_ln e.2))) = true := by decide +kernel
theorem zd_90_9 : (zm_c90_9.all fun e => decide (decode (zm_by 90) e.1 = .ok (e.2.1, zm_ln e.2))) = true := by decide +kernel
theorem zd_90_10 : (zm_c90_10.all fun e => decide (decode (zm_by 90) e.1 = .ok (e.2.1, zm_ln e.2))) = true := by decide +kernel
theorem zd_90_11 : (zm_c90_11.all fun e => decide (decode (zm_by 90) e.1 = .ok (e.2.1, zm_ln e.2))) = true := by decide +kernel
theorem zd_90_12 : (zm_c90_12.all fun e => decide (decode (zm_by 90) e.1 = .ok (e.2.1, zm_ln e.2))) = true := by decide +kernel
theorem zd_90_13 : (zm_c90_13.all fun e => decide (decode (zm_by 90) e.1 = .ok (e.2.1, zm_ln e.2))) = true := by decide +kernel
theorem zd_90_14 : (zm_c90_14.all fun e => decide (decode (zm_by 90) e.1 = .ok (e.2.1, zm_ln e.2))) = true := by decide +kernel
theorem zd_90_15 : (zm_c90_15.all fun e => decide (decode (zm_by 90) e.1 = .ok (e.2.1, zm_ln e.2))) = true := by decide +kernel
theorem zd_90_16 : (zm_c90_16.all fun e => decide (decode (zm_by 90) e.1 = .ok (e.2.1, zm_ln e.2))) = true := by decide +kernel
theorem zd_90_17 : (zm_c90_17.all fun e => decide (decode (zm_by 90) e.1 = .ok (e.2.1, zm_ln e.2))) = true := by decide +kernel
theorem zd_90_18 : (zm_c90_18.all fun e => decide (decode (zm_by 90) e.1 = .ok (e.2.1, zm_ln e.2))) = true := by decide +kernel
theorem zd_90_19 : (zm_c90_19.all fun e => decide (decode (zm_by 90) e.1 = .ok (e.2.1, zm_ln e.2))) = true := by decide +kernel
theorem zd_90_20 : (zm_c90_20.all fun e => decide (decode (zm_by 90) e.1 = .ok (e.2.1, zm_ln e.2))) = true := by decide +kernel
theorem zd_90_21 : (zm_c90_21.all fun e => decide (decode (zm_by 90) e.1 = .ok (e.2.1, zm_ln e.2))) = true := by decide +kernel
theorem zd_90_22 : (zm_c90_22.all fun e => decide (decode (zm_by 90) e.1 = .ok (e.2.1, zm_ln e.2))) = true := by decide +kernel
theorem zd_90_23 : (zm_c90_23.all fun e => decide (decode (zm_by 90) e.1 = .ok (e.2.1, zm_ln e.2))) = true := by decide +kernel
theorem zd_90_24 : (zm_c90_24.all fun e => decide (decode (zm_by 90) e.1 = .ok (e.2.1, zm_ln e.2))) = true := by decide +kernel
theorem zd_90_25 : (zm_c90_25.all fun e => decide (decode (zm_by 90) e.1 = .ok (e.2.1, zm_ln e.2))) = true := by decide +kernel
theorem zd_91_0 : (zm_c91_0.all fun e => decide (decode (zm_by 91) e.1 = .ok (e.2.1, zm_ln e.2))) = true := by decide +kernel
theorem zd_91_1 : (zm_c91_1.all fun e => decide (decode (zm_by 91) e.1 = .ok (e.2.1, zm_ln e.2))) = true := by decide +kernel
theorem zd_91_2 : (zm_c91_2.all fun e => decide (decode (zm_by 91) e.1 = .ok (e.2.1, zm_ln e.2))) = true := by decide +kernel
theorem zd_91_3 : (zm_c91_3.all fun e => decide (decode (zm_by 91) e.1 = .ok (e.2.1, zm_ln e.2))) = true := by decide +kernel
theorem zd_91_4 : (zm_c91_4.all fun e => decide (decode (zm_by 91) e.1 = .ok (e.2.1, zm_ln e.2))) = true := by decide +kernel
theorem zd_91_5 : (zm_c91_5.all fun e => decide (decode (zm_by 91) e.1 = .ok (e.2.1, zm_ln e.2))) = true := by decide +kernel
theorem zd_91_6 : (zm_c91_6.all fun e => decide (decode (zm_by 91) e.1 = .ok (e.2.1, zm_ln e.2))) = true := by decide +kernel
theorem zd_91_7 : (zm_c91_7.all fun e => decide (decode (zm_by 91) e.1 = .ok (e.2.1, zm_ln e.2))) = true := by decide +kernel
theorem zd_91_8 : (zm_c91_8.all fun e => decide (decode (zm_by 91) e.1 = .ok (e.2.1, zm_ln e.2))) = true := by decide +kernel
theorem zd_91_9 : (zm_c91_9.all fun e => decide (decode (zm_by 91) e.1 = .ok (e.2.1, zm_ln e.2))) = true := by decide +kernel
theorem zd_91_10 : (zm_c91_10.all fun e => decide (decode (zm_by 91) e.1 = .ok (e.2.1, zm_ln e.2))) = true := by decide +kernel
theorem zd_91_11 : (zm_c91_11.all fun e => decide (decode (zm_by 91) e.1 = .ok (e.2.1, zm_ln e.2))) = true := by decide +kernel
theorem zd_91_12 : (zm_c91_12.all fun e => decide (decode (zm_by 91) e.1 = .ok (e.2.1, zm_ln e.2))) = true := by decide +kernel
theorem zd_91_13 : (zm_c91_13.all fun e => decide (decode (zm_by 91) e.1 = .ok (e.2.1, zm_ln e.2))) = true := by decide +kernel
theorem zd_92_0 : (zm_c92_0.all fun e => decide (decode (zm_by 92) e.1 = .ok (e.2.1, zm_ln e.2))) = true := by decide +kernel
theorem zd_92_1 : (zm_c92_1.all fun e => decide (decode (zm_by 92) e.1 = .ok (e.2.1, zm_ln e.2))) = true := by decide +kernel
theorem zd_92_2 : (zm_c92_2.all fun e => decide (decode (zm_by 92) e.1 = .ok (e.2.1, zm_ln e.2))) = true := by decide +kernel
theorem zd_92_3 : (zm_c92_3.all fun e => decide (decode (zm_by 92) e.1 = .ok (e.2.1, zm_ln e.2))) = true := by decide +kernel
theorem zd_92_4 : (zm_c92_4.all fun e => decide (decode (zm_by 92) e.1 = .ok (e.2.1, zm_ln e.2))) = true := by decide +kernel
theorem zd_92_5 : (zm_c92_5.all fun e => decide (decode (zm_by 92) e.1 = .ok (e.2.1, zm_ln e.2))) = true := by decide +kernel
theorem zd_92_6 : (zm_c92_6.all fun e => decide (decode (zm_by 92) e.1 = .ok (e.2.1, zm_ln e.2))) = true := by decide +kernel
theorem zd_92_7 : (zm_c92_7.all fun e => decide (decode (zm_by 92) e.1 = .ok (e.2.1, zm_ln e.2))) = true := by decide +kernel
theorem zd_93_0 : (zm_c93_0.all fun e => decide (decode (zm_by 93) e.1 = .ok (e.2.1, zm_ln e.2))) = true := by decide +kernel
theorem zd_93_1 : (zm_c93_1.all fun e => decide (decode (zm_by 93) e.1 = .ok (e.2.1, zm_ln e.2))) = true := by decide +kernel
theorem zd_93_2 : (zm_c93_2.all fun e => decide (decode (zm_by 93) e.1 = .ok (e.2.1, zm_ln e.2))) = true := by decide +kernel
theorem zd_94_0 : (zm_c94_0.all fun e => decide (decode (zm_by 94) e.1 = .ok (e.2.1, zm_ln e.2))) = true := by decide +kernel
theorem zd_94_1 : (zm_c94_1.all fun e => decide (decode (zm_by 94) e.1 = .ok (e.2.1, zm_ln e.2))) = true := by decide +kernel
theorem zd_94_2 : (zm_c94_2.all fun e => decide (decode (zm_by 94) e.1 = .ok (e.2.1, zm_ln e.2))) = true := by decide +kernel
theorem zd_95_0 : (zm_c95_0.all fun e => decide (decode (zm_by 95) e.1 = .ok (e.2.1, zm_ln e.2))) = true := by decide +kernel
theorem zd_95_1 : (zm_c95_1.all fun e => decide (decode (zm_by 95) e.1 = .ok (e.2.1, zm_ln e.2))) = true := by decide +kernel
theorem zd_95_2 : (zm_c95_2.all fun e => decide (decode (zm_by 95) e.1 = .ok (e.2.1, zm_ln e.2))) = true := by decide +kernel
theorem zd_95_3 : (zm_c95_3.all fun e => decide (decode (zm_by 95) e.1 = .ok (e.2.1, zm_ln e.2))) = true := by decide +kernel
theorem zd_95_4 : (zm_c95_4.all fun e => decide (decode (zm_by 95) e.1 = .ok (e.2.1, zm_ln e.2))) = true := by decide +kernel
theorem zd_95_5 : (zm_c95_5.all fun e => decide (decode (zm_by 95) e.1 = .ok (e.2.1, zm_ln e.2))) = true := by decide +kernel
theorem zd_95_6 : (zm_c95_6.all fun e => decide (decode (zm_by 95) e.1 = .ok (e.2.1, zm_ln e.2))) = true := by decide +kernel
theorem zd_95_7 : (zm_c95_7.all fun e => decide (decode (zm_by 95) e.1 = .ok (e.2.1, zm_ln e.2))) = true := by decide +kernel
theorem zd_95_8 : (zm_c95_8.all fun e => decide (decode (zm_by 95) e.1 = .ok (e.2.1, zm_ln e.2))) = true := by decide +kernel
theorem zd_95_9 : (zm_c95_9.all fun e => decide (decode (zm_by 95) e.1 = .ok (e.2.1, zm_ln e.2))) = true := by decide +kernel
theorem zd_95_10 : (zm_c95_10.all fun e => decide (decode (zm_by 95) e.1 = .ok (e.2.1, zm_ln e.2))) = true := by decide +kernel
theorem zd_95_11 : (zm_c95_11.all fun e => decide (decode (zm_by 95) e.1 = .ok (e.2.1, zm_ln e.2))) = true := by decide +kernel
theorem zd_95_12 : (zm_c95_12.all fun e => decide (decode (zm_by 95) e.1 = .ok (e.2.1, zm_ln e.2))) = true := by decide +kernel
theorem zd_95_13 : (zm_c95_13.all fun e => decide (decode (zm_by 95) e.1 = .ok (e.2.1, zm_ln e.2))) = true := by decide +kernel
theorem zd_95_14 : (zm_c95_14.all fun e => decide (decode (zm_by 95) e.1 = .ok (e.2.1, zm_ln e.2))) = true := by decide +kernel
theorem zd_95_15 : (zm_c95_15.all fun e => decide (decode (zm_by 95) e.1 = .ok (e.2.1, zm_ln e.2))) = true := by decide +kernel
theorem zd_95_16 : (zm_c95_16.all fun e => decide (decode (zm_by 95) e.1 = .ok (e.2.1, zm_ln e.2))) = true := by decide +kernel
theorem zd_95_17 : (zm_c95_17.all fun e => decide (decode (zm_by 95) e.1 = .ok (e.2.1, zm_ln e.2))) = true := by decide +kernel
theorem zd_96_0 : (zm_c96_0.all fun e => decide (decode (zm_by 96) e.1 = .ok (e.2.1, zm_ln e.2))) = true := by decide +kernel
theorem zd_96_1 : (zm_c96_1.all fun e => decide (decode (zm_by 96) e.1 = .ok (e.2.1, zm_ln e.2))) = true := by decide +kernel
theorem zd_96_2 : (zm_c96_2.all fun e => decide (decode (zm_by 96) e.1 = .ok (e.2.1, zm_ln e.2))) = true := by decide +kernel
theorem zd_96_3 : (zm_c96_3.all fun e => decide (decode (zm_by 96) e.1 = .ok (e.2.1, zm_ln e.2))) = true := by decide +kernel
theorem zd_96_4 : (zm_c96_4.all fun e => decide (decode (zm_by 96) e.1 = .ok (e.2.1, zm_ln e.2))) = true := by decide +kernel
theorem zd_96_5 : (zm_c96_5.all fun e => decide (decode (zm_by 96) e.1 = .ok (e.2.1, zm_ln e.2))) = true := by decide +kernel
theorem zd_96_6 : (zm_c96_6.all fun e => decide (decode (zm_by 96) e.1 = .ok (e.2.1, zm_ln e.2))) = true := by decide +kernel
theorem zd_96_7 : (zm_c96_7.all fun e => decide (decode (zm_by 96) e.1 = .ok (e.2.1, zm_ln e.2))) = true := by decide +kernel
theorem zd_96_8 : (zm_c96_8.all fun e => decide (decode (zm_by 96) e.1 = .ok (e.2.1, zm_ln e.2))) = true := by decide +kernel
theorem zd_96_9 : (zm_c96_9.all fun e => decide (decode (zm_by 96) e.1 = .ok (e.2.1, zm_ln e.2))) = true := by decide +kernel
theorem zd_97_0 : (zm_c97_0.all fun e => decide (decode (zm_by 97) e.1 = .ok (e.2.1, zm_ln e.2))) = true := by decide +kernel
theorem zd_97_1 : (zm_c97_1.all fun e => decide (decode (zm_by 97) e.1 = .ok (e.2.1, zm_ln e.2))) = true := by decide +kernel
theorem zd_97_2 : (zm_c97_2.all fun e => decide (decode (zm_by 97) e.1 = .ok (e.2.1, zm_ln e.2))) = true := by decide +kernel
theorem zd_98_0 : (zm_c98_0.all fun e => decide (decode (zm_by 98) e.1 = .ok (e.2.1, zm_ln e.2))) = true := by decide +kernel
theorem zd_98_1 : (zm_c98_1.all fun e => decide (decode (zm_by 98) e.1 = .ok (e.2.1, zm_ln e.2))) = true := by decide +kernel
theorem zd_98_2 : (zm_c98_2.all fun e => decide (decode (zm_by 98) e.1 = .ok (e.2.1, zm_ln e.2))) = true := by decide +kernel
theorem zd_98_3 : (zm_c98_3.all fun e => decide (decode (zm_by 98) e.1 = .ok (e.2.1, zm_ln e.2))) = true := by decide +kernel
theorem zd_98_4 : (zm_c98_4.all fun e => decide (decode (zm_by 98) e.1 = .ok (e.2.1, zm_ln e.2))) = true := by decide +kernel
theorem zd_98_5 : (zm_c98_5.all fun e => decide (decode (zm_by 98) e.1 = .ok (e.2.1, zm_ln e.2))) = true := by decide +kernel
theorem zd_98_6 : (zm_c98_6.all fun e => decide (decode (zm_by 98) e.1 = .ok (e.2.1, zm_ln e.2))) = true := by decide +kernel
theorem zd_98_7 : (zm_c98_7.all fun e => decide (decode (zm_by 98) e.1 = .ok (e.2.1, zm_ln e.2))) = true := by decide +kernel
theorem zd_99_0 : (zm_c99_0.all fun e => decide (decode (zm_by 99) e.1 = .ok (e.2.1, zm_ln e.2))) = true := by decide +kernel
theorem zd_99_1 : (zm_c99_1.all fun e => decide (decode (zm_by 99) e.1 = .ok (e.2.1, zm_ln e.2))) = true := by decide +kernel
theorem zd_99_2 : (zm_c99_2.all fun e => decide (decode (zm_by 99) e.1 = .ok (e.2.1, zm_ln e.2))) = true := by decide +kernel
theorem zd_99_3 : (zm_c99_3.all fun e => decide (decode (zm_by 99) e.1 = .ok (e.2.1, zm_ln e.2))) = true := by decide +kernel
theorem zd_99_4 : (zm_c99_4.all fun e => decide (decode (zm_by 99) e.1 = .ok (e.2.1, zm_ln e.2))) = true := by decide +kernel
theorem zd_100_0 : (zm_c100_0.all fun e => decide (decode (zm_by 100) e.1 = .ok (e.2.1, zm_ln e.2))) = true := by decide +kernel
theorem zd_100_1 : (zm_c100_1.all fun e => decide (decode (zm_by 100) e.1 = .ok (e.2.1, zm_ln e.2))) = true := by decide +kernel
theorem zd_100_2 : (zm_c100_2.all fun e => decide (decode (zm_by 100) e.1 = .ok (e.2.1, zm_ln e.2))) = true := by decide +kernel
theorem zd_100_3 : (zm_c100_3.all fun e => decide (decode (zm_by 100) e.1 = .ok (e.2.1, zm_ln e.2))) = true := by decide +kernel
theorem zd_100_4 : (zm_c100_4.all fun e => decide (decode (zm_by 100) e.1 = .ok (e.2.1, zm_ln e.2))) = true := by decide +kernel
theorem zd_101_0 : (zm_c101_0.all fun e => decide (decode (zm_by 101) e.1 = .ok (e.2.1, zm_ln e.2))) = true := by decide +kernel
theorem zd_101_1 : (zm_c101_1.all fun e => decide (decode (zm_by 101) e.1 = .ok (e.2.1, zm_ln e.2))) = true := by decide +kernel
theorem zd_101_2 : (zm_c101_2.all fun e => decide (decode (zm_by 101) e.1 = .ok (e.2.1, zm_ln e.2))) = true := by decide +kernel
theorem zd_101_3 : (zm_c101_3.all fun e => decide (decode (zm_by 101) e.1 = .ok (e.2.1, zm_ln e.2))) = true := by decide +kernel
theorem zd_102_0 : (zm_c102_0.all fun e => decide (decode (zm_by 102) e.1 = .ok (e.2.1, zm_ln e.2))) = true := by decide +kernel
theorem zd_102_1 : (zm_c102_1.all fun e => decide (decode (zm_by 102) e.1 = .ok (e.2.1, zm_ln e.2))) = true := by decide +kernel
theorem zd_103_0 : (zm_c103_0.all fun e => decide (decode (zm_by 103) e.1 = .ok (e.2.1, zm_ln e.2))) = true := by decide +kernel
theorem zd_103_1 : (zm_c103_1.all fun e => decide (decode (zm_by 103) e.1 = .ok (e.2.1, zm_ln e.2))) = true := by decide +kernel
theorem zd_103_2 : (zm_c103_2.all fun e => decide (decode (zm_by 103) e.1 = .ok (e.2.1, zm_ln e.2))) = true := by decide +kernel
theorem zd_103_3 : (zm_c103_3.all fun e => decide (decode (zm_by 103) e.1 = .ok (e.2.1, zm_ln e.2))) = true := by decide +kernel
theorem zd_103_4 : (zm_c103_4.all fun e => decide (decode (zm_by 103) e.1 = .ok (e.2.1, zm_ln e.2))) = true := by decide +kernel
theorem zd_103_5 : (zm_c103_5.all fun e => decide (decode (zm_by 103) e.1 = .ok (e.2.1, zm_ln e.2))) = true := by decide +kernel
theorem zd_103_6 : (zm_c103_6.all fun e => decide (decode (zm_by 103) e.1 = .ok (e.2.1, zm_ln e.2))) = true := by decide +kernel
theorem zd_103_7 : (zm_c103_7.all fun e => decide (decode (zm_by 103) e.1 = .ok (e.2.1, zm_ln e.2))) = true := by decide +kernel
theorem zd_103_8 : (zm_c103_8.all fun e => decide (decode (zm_by 103) e.1 = .ok (e.2.1, zm_ln e.2))) = true := by decide +kernel
theorem zd_103_9 : (zm_c103_9.all fun e => decide (decode (zm_by 103) e.1 = .ok (e.2.1, zm_ln e.2))) = true := by decide +kernel
theorem zd_103_10 : (zm_c103_10.all fun e => decide (decode (zm_by 103) e.1 = .ok (e.2.1, zm_ln e.2))) = true := by decide +kernel
theorem zd_103_11 : (zm_c103_11.all fun e => decide (decode (zm_by 103) e.1 = .ok (e.2.1, zm_ln e.2))) = true := by decide +kernel
theorem zd_103_12 : (zm_c103_12.all fun e => decide (decode (zm_by 103) e.1 = .ok (e.2.1, zm_ln e.2))) = true := by decide +kernel
theorem zd_103_13 : (zm_c103_13.all fun e => decide (decode (zm_by 103) e.1 = .ok (e.2.1, zm_ln e.2))) = true := by decide +kernel
theorem zd_103_14 : (zm_c103_14.all fun e => decide (decode (zm_by 103) e.1 = .ok (e.2.1, zm_ln e.2))) = true := by decide +kernel
theorem zd_103_15 : (zm_c103_15.all fun e => decide (decode (zm_by 103) e.1 = .ok (e.2.1, zm_ln e.2))) = true := by decide +kernel
theorem zd_103_16 : (zm_c103_16.all fun e => decide (decode (zm_by 103) e.1 = .ok (e.2.1, zm_ln e.2))) = true := by decide +kernel
theorem zd_103_17 : (zm_c103_17.all fun e => decide (decode (zm_by 103) e.1 = .ok (e.2.1, zm_ln e.2))) = true := by decide +kernel
theorem zd_103_18 : (zm_c103_18.all fun e => decide (decode (zm_by 103) e.1 = .ok (e.2.1, zm_ln e.2))) = true := by decide +kernel
theorem zd_103_19 : (zm_c103_19.all fun e => decide (decode (zm_by 103) e.1 = .ok (e.2.1, zm_ln e.2))) = true := by decide +kernel
theorem zd_103_20 : (zm_c103_20.all fun e => decide (decode (zm_by 103) e.1 = .ok (e.2.1, zm_ln e.2))) = true := by decide +kernel
theorem zd_103_21 : (zm_c103_21.all fun e => decide (decode (zm_by 103) e.1 = .ok (e.2.1, zm_ln e.2))) = true := by decide +kernel
theorem zd_104_0 : (zm_c104_0.all fun e => decide (decode (zm_by 104) e.1 = .ok (e.2.1, zm_ln e.2))) = true := by decide +kernel
theorem zd_104_1 : (zm_c104_1.all fun e => decide (decode (zm_by 104) e.1 = .ok (e.2.1, zm_ln e.2))) = true := by decide +kernel
theorem zd_105_0 : (zm_c105_0.all fun e => decide (decode (zm_by 105) e.1 = .ok (e.2.1, zm_ln e.2))) = true := by decide +kernel
theorem zd_105_1 : (zm_c105_1.all fun e => decide (decode (zm_by 105) e.1 = .ok (e.2.1, zm_ln e.2))) = true := by decide +kernel
theorem zd_105_2 : (zm_c105_2.all fun e => decide (decode (zm_by 105) e.1 = .ok (e.2.1, zm_ln e.2))) = true := by decide +kernel
theorem zd_105_3 : (zm_c105_3.all fun e => decide (decode (zm_by 105) e.1 = .ok (e.2.1, zm_ln e.2))) = true := by decide +kernel
theorem zd_106_0 : (zm_c106_0.all fun e => decide (decode (zm_by 106) e.1 = .ok (e.2.1, zm_ln e.2))) = true := by decide +kernel
theorem zd_106_1 : (zm_c106_1.all fun e => decide (decode (zm_by 106) e.1 = .ok (e.2.1, zm_ln e.2))) = true := by decide +kernel
theorem zd_106_2 : (zm_c106_2.all fun e => decide (decode (zm_by 106) e.1 = .ok (e.2.1, zm_ln e.2))) = true := by decide +kernel
theorem zd_106_3 : (zm_c106_3.all fun e => decide (decode (zm_by 106) e.1 = .ok (e.2.1, zm_ln e.2))) = true := by decide +kernel
theorem zd_106_4 : (zm_c106_4.all fun e => decide (decode (zm_by 106) e.1 = .ok (e.2.1, zm_ln e.2))) = true := by decide +kernel
theorem zd_106_5 : (zm_c106_5.all fun e => decide (decode (zm_by 106) e.1 = .ok (e.2.1, zm_ln e.2))) = true := by decide +kernel
theorem zd_106_6 : (zm_c106_6.all fun e => decide (decode (zm_by 106) e.1 = .ok (e.2.1, zm_ln e.2))) = true := by decide +kernel
theorem zd_106_7 : (zm_c106_7.all fun e => decide (decode (zm_by 106) e.1 = .ok (e.2.1, zm_ln e.2))) = true := by decide +kernel
theorem zd_107_0 : (zm_c107_0.all fun e => decide (decode (zm_by 107) e.1 = .ok (e.2.1, zm_ln e.2))) = true := by decide +kernel
theorem zd_108_0 : (zm_c108_0.all fun e => decide (decode (zm_by 108) e.1 = .ok (e.2.1, zm_ln e.2))) = true := by decide +kernel
theorem zd_108_1 : (zm_c108_1.all fun e => decide (decode (zm_by 108) e.1 = .ok (e.2.1, zm_ln e.2))) = true := by decide +kernel
theorem zd_109_0 : (zm_c109_0.all fun e => decide (decode (zm_by 109) e.1 = .ok (e.2.1, zm_ln e.2))) = true := by decide +kernel
theorem zd_110_0 : (zm_c110_0.all fun e => decide (decode (zm_by 110) e.1 = .ok (e.2.1, zm_ln e.2))) = true := by decide +kernel
theorem zd_110_1 : (zm_c110_1.all fun e => decide (decode (zm_by 110) e.1 = .ok (e.2.1, zm_ln e.2))) = true := by decide +kernel
theorem zd_110_2 : (zm_c110_2.all fun e => decide (decode (zm_by 110) e.1 = .ok (e.2.1, zm_ln e.2))) = true := by decide +kernel
theorem zd_111_0 : (zm_c111_0.all fun e => decide (decode (zm_by 111) e.1 = .ok (e.2.1, zm_ln e.2))) = true := by decide +kernel
theorem zd_111_1 : (zm_c111_1.all fun e => decide (decode (zm_by 111) e.1 = .ok (e.2.1, zm_ln e.2))) = true := by decide +kernel
theorem zd_111_2 : (zm_c111_2.all fun e => decide (decode (zm_by 111) e.1 = .ok (e.2.1, zm_ln e.2))) = true := by decide +kernel
theorem zd_112_0 : (zm_c112_0.all fun e => decide (decode (zm_by 112) e.1 = .ok (e.2.1, zm_ln e.2))) = true := by decide +kernel
theorem zd_112_1 : (zm_c112_1.all fun e => decide (decode (zm_by 112) e.1 = .ok (e.2.1, zm_ln e.2))) = true := by decide +kernel
theorem zd_113_0 : (zm_c113_0.all fun e => decide (decode (zm_by 113) e.1 = .ok (e.2.1, zm_ln e.2))) = true := by decide +kernel
theorem zd_113_1 : (zm_c113_1.all fun e => decide (decode (zm_by 113) e.1 = .ok (e.2.1, zm_ln e.2))) = true := by decide +kernel
theorem zd_113_2 : (zm_c113_2.all fun e => decide (decode (zm_by 113) e.1 = .ok (e.2.1, zm_ln e.2))) = true := by decide +kernel
theorem zd_113_3 : (zm_c113_3.all fun e => decide (decode (zm_by 113) e.1 = .ok (e.2.1, zm_ln e.2))) = true := by decide +kernel
theorem zd_113_4 : (zm_c113_4.all fun e => decide (decode (zm_by 113) e.1 = .ok (e.2.1, zm_ln e.2))) = true := by decide +kernel
theorem zd_113_5 : (zm_c113_5.all fun e => decide (decode (zm_by 113) e.1 = .ok (e.2.1, zm_ln e.2))) = true := by decide +kernel
theorem zd_114_0 : (zm_c114_0.all fun e => decide (decode (zm_by 114) e.1 = .ok (e.2.1, zm_ln e.2))) = true := by decide +kernel
theorem zd_115_0 : (zm_c115_0.all fun e => decide (decode (zm_by 115) e.1 = .ok (e.2.1, zm_ln e.2))) = true := by decide +kernel
theorem zd_115_1 : (zm_c115_1.all fun e => decide (decode (zm_by 115) e.1 = .ok (e.2.1, zm_ln e.2))) = true := by decide +kernel
theorem zd_116_0 : (zm_c116_0.all fun e => decide (decode (zm_by 116) e.1 = .ok (e.2.1, zm_ln e.2))) = true := by decide +kernel
theorem zd_116_1 : (zm_c116_1.all fun e => decide (decode (zm_by 116) e.1 = .ok (e.2.1, zm_ln e.2))) = true := by decide +kernel
theorem zd_116_2 : (zm_c116_2.all fun e => decide (decode (zm_by 116) e.1 = .ok (e.2.1, zm_ln e.2))) = true := by decide +kernel
theorem zd_117_0 : (zm_c117_0.all fun e => decide (decode (zm_by 117) e.1 = .ok (e.2.1, zm_ln e.2))) = true := by decide +kernel
theorem zd_118_0 : (zm_c118_0.all fun e => decide (decode (zm_by 118) e.1 = .ok (e.2.1, zm_ln e.2))) = true := by decide +kernel
theorem zd_118_1 : (zm_c118_1.all fun e => decide (decode (zm_by 118) e.1 = .ok (e.2.1, zm_ln e.2))) = true := by decide +kernel
theorem zd_118_2 : (zm_c118_2.all fun e => decide (decode (zm_by 118) e.1 = .ok (e.2.1, zm_ln e.2))) = true := by decide +kernel
theorem zd_118_3 : (zm_c118_3.all fun e => decide (decode (zm_by 118) e.1 = .ok (e.2.1, zm_ln e.2))) = true := by decide +kernel
end
section
set_option maxRecDepth 100000 in
theorem zq_0_0 : ∀ e ∈ zm_c0_0, zm_okq 0 e.2 := List.forall_mem_cons.mpr ⟨⟨_, _, _, rfl, rfl, zm_f0.1, zm_f0.2.1, zw_27, zw_28, zw_1⟩, List.forall_mem_cons.mpr ⟨trivial, List.forall_mem_cons.mpr ⟨trivial, List.forall_mem_cons.mpr ⟨trivial, List.forall_mem_cons.mpr ⟨⟨_, _, _, rfl, rfl, zm_f5.1, zm_f5.2.1, zw_714, zw_715, zw_8⟩, List.forall_mem_cons.mpr ⟨trivial, fun _ h => absurd h List.not_mem_nil⟩⟩⟩⟩⟩⟩
set_option maxRecDepth 100000 in
theorem zq_0_1 : ∀ e ∈ zm_c0_1, zm_okq 0 e.2 := List.forall_mem_cons.mpr ⟨trivial, List.forall_mem_cons.mpr ⟨trivial, List.forall_mem_cons.mpr ⟨trivial, List.forall_mem_cons.mpr ⟨⟨_, rfl, rfl, zw_998⟩, List.forall_mem_cons.mpr ⟨trivial, List.forall_mem_cons.mpr ⟨trivial, fun _ h => absurd h List.not_mem_nil⟩⟩⟩⟩⟩⟩
set_option maxRecDepth 100000 in
theorem zq_0_2 : ∀ e ∈ zm_c0_2, zm_okq 0 e.2 := List.forall_mem_cons.mpr ⟨trivial, List.forall_mem_cons.mpr ⟨trivial, List.forall_mem_cons.mpr ⟨trivial, List.forall_mem_cons.mpr ⟨trivial, List.forall_mem_cons.mpr ⟨trivial, List.forall_mem_cons.mpr ⟨trivial, fun _ h => absurd h List.not_mem_nil⟩⟩⟩⟩⟩⟩
set_option maxRecDepth 100000 in
theorem zq_0_3 : ∀ e ∈ zm_c0_3, zm_okq 0 e.2 := List.forall_mem_cons.mpr ⟨trivial, List.forall_mem_cons.mpr ⟨trivial, List.forall_mem_cons.mpr ⟨trivial, List.forall_mem_cons.mpr ⟨trivial, List.forall_mem_cons.mpr ⟨trivial, List.forall_mem_cons.mpr ⟨trivial, fun _ h => absurd h List.not_mem_nil⟩⟩⟩⟩⟩⟩
set_option maxRecDepth 100000 in
theorem zq_0_4 : ∀ e ∈ zm_c0_4, zm_okq 0 e.2 := List.forall_mem_cons.mpr ⟨trivial, List.forall_mem_cons.mpr ⟨trivial, List.forall_mem_cons.mpr ⟨trivial, List.forall_mem_cons.mpr ⟨trivial, List.forall_mem_cons.mpr ⟨trivial, List.forall_mem_cons.mpr ⟨trivial, fun _ h => absurd h List.not_mem_nil⟩⟩⟩⟩⟩⟩
set_option maxRecDepth 100000 in
theorem zq_0_5 : ∀ e ∈ zm_c0_5, zm_okq 0 e.2 := List.forall_mem_cons.mpr ⟨trivial, List.forall_mem_cons.mpr ⟨trivial, List.forall_mem_cons.mpr ⟨trivial, List.forall_mem_cons.mpr ⟨trivial, List.forall_mem_cons.mpr ⟨trivial, List.forall_mem_cons.mpr ⟨trivial, fun _ h => absurd h List.not_mem_nil⟩⟩⟩⟩⟩⟩
set_option maxRecDepth 100000 in
theorem zq_0_6 : ∀ e ∈ zm_c0_6, zm_okq 0 e.2 := List.forall_mem_cons.mpr ⟨trivial, List.forall_mem_cons.mpr ⟨trivial, List.forall_mem_cons.mpr ⟨trivial, List.forall_mem_cons.mpr ⟨trivial, List.forall_mem_cons.mpr ⟨zw_997, List.forall_mem_cons.mpr ⟨trivial, fun _ h => absurd h List.not_mem_nil⟩⟩⟩⟩⟩⟩
set_option maxRecDepth 100000 in
theorem zq_0_7 : ∀ e ∈ zm_c0_7, zm_okq 0 e.2 := List.forall_mem_cons.mpr ⟨trivial, List.forall_mem_cons.mpr ⟨trivial, List.forall_mem_cons.mpr ⟨trivial, List.forall_mem_cons.mpr ⟨trivial, List.forall_mem_cons.mpr ⟨trivial, List.forall_mem_cons.mpr ⟨trivial, fun _ h => absurd h List.not_mem_nil⟩⟩⟩⟩⟩⟩
set_option maxRecDepth 100000 in
theorem zq_0_8 : ∀ e ∈ zm_c0_8, zm_okq 0 e.2 := List.forall_mem_cons.mpr ⟨trivial, List.forall_mem_cons.mpr ⟨trivial, List.forall_mem_cons.mpr ⟨trivial, List.forall_mem_cons.mpr ⟨trivial, List.forall_mem_cons.mpr ⟨trivial, List.forall_mem_cons.mpr ⟨trivial, fun _ h => absurd h List.not_mem_nil⟩⟩⟩⟩⟩⟩
set_option maxRecDepth 100000 in
theorem zq_0_9 : ∀ e ∈ zm_c0_9, zm_okq 0 e.2 := List.forall_mem_cons.mpr ⟨trivial, List.forall_mem_cons.mpr ⟨trivial, List.forall_mem_cons.mpr ⟨trivial, List.forall_mem_cons.mpr ⟨trivial, List.forall_mem_cons.mpr ⟨trivial, List.forall_mem_cons.mpr ⟨trivial, fun _ h => absurd h List.not_mem_nil⟩⟩⟩⟩⟩⟩
set_option maxRecDepth 100000 in
theorem zq_0_10 : ∀ e ∈ zm_c0_10, zm_okq 0 e.2 := List.forall_mem_cons.mpr ⟨trivial, List.forall_mem_cons.mpr ⟨zw_997, List.forall_mem_cons.mpr ⟨trivial, List.forall_mem_cons.mpr ⟨trivial, List.forall_mem_cons.mpr ⟨trivial, List.forall_mem_cons.mpr ⟨trivial, fun _ h => absurd h List.not_mem_nil⟩⟩⟩⟩⟩⟩
set_option maxRecDepth 100000 in
theorem zq_0_11 : ∀ e ∈ zm_c0_11, zm_okq 0 e.2 := List.forall_mem_cons.mpr ⟨trivial, List.forall_mem_cons.mpr ⟨trivial, List.forall_mem_cons.mpr ⟨trivial, List.forall_mem_cons.mpr ⟨trivial, List.forall_mem_cons.mpr ⟨trivial, List.forall_mem_cons.mpr ⟨trivial, fun _ h => absurd h List.not_mem_nil⟩⟩⟩⟩⟩⟩
set_option maxRecDepth 100000 in
theorem zq_0_12 : ∀ e ∈ zm_c0_12, zm_okq 0 e.2 := List.forall_mem_cons.mpr ⟨trivial, List.forall_mem_cons.mpr ⟨trivial, List.forall_mem_cons.mpr ⟨trivial, List.forall_mem_cons.mpr ⟨trivial, List.forall_mem_cons.mpr ⟨trivial, List.forall_mem_cons.mpr ⟨trivial, fun _ h => absurd h List.not_mem_nil⟩⟩⟩⟩⟩⟩
set_option maxRecDepth 100000 in
theorem zq_0_13 : ∀ e ∈ zm_c0_13, zm_okq 0 e.2 := List.forall_mem_cons.mpr ⟨trivial, List.forall_mem_cons.mpr ⟨trivial, List.forall_mem_cons.mpr ⟨trivial, List.forall_mem_cons.mpr ⟨trivial, List.forall_mem_cons.mpr ⟨trivial, List.forall_mem_cons.mpr ⟨trivial, fun _ h => absurd h List.not_mem_nil⟩⟩⟩⟩⟩⟩
set_option maxRecDepth 100000 in
theorem zq_0_14 : ∀ e ∈ zm_c0_14, zm_okq 0 e.2 := List.forall_mem_cons.mpr ⟨trivial, List.forall_mem_cons.mpr ⟨trivial, List.forall_mem_cons.mpr ⟨trivial, List.forall_mem_cons.mpr ⟨trivial, List.forall_mem_cons.mpr ⟨trivial, List.forall_mem_cons.mpr ⟨trivial, fun _ h => absurd h List.not_mem_nil⟩⟩⟩⟩⟩⟩
set_option maxRecDepth 100000 in
theorem zq_0_15 : ∀ e ∈ zm_c0_15, zm_okq 0 e.2 := List.forall_mem_cons.mpr ⟨trivial, List.forall_mem_cons.mpr ⟨trivial, List.forall_mem_cons.mpr ⟨trivial, List.forall_mem_cons.mpr ⟨trivial, List.forall_mem_cons.mpr ⟨trivial, List.forall_mem_cons.mpr ⟨trivial, fun _ h => absurd h List.not_mem_nil⟩⟩⟩⟩⟩⟩
set_option maxRecDepth 100000 in
theorem zq_0_16 : ∀ e ∈ zm_c0_16, zm_okq 0 e.2 := List.forall_mem_cons.mpr ⟨trivial, List.forall_mem_cons.mpr ⟨trivial, List.forall_mem_cons.mpr ⟨trivial, List.forall_mem_cons.mpr ⟨trivial, List.forall_mem_cons.mpr ⟨trivial, List.forall_mem_cons.mpr ⟨trivial, fun _ h => absurd h List.not_mem_nil⟩⟩⟩⟩⟩⟩
set_option maxRecDepth 100000 in
theorem zq_0_17 : ∀ e ∈ zm_c0_17, zm_okq 0 e.2 := List.forall_mem_cons.mpr ⟨trivial, List.forall_mem_cons.mpr ⟨trivial, List.forall_mem_cons.mpr ⟨trivial, List.forall_mem_cons.mpr ⟨trivial, List.forall_mem_cons.mpr ⟨trivial, List.forall_mem_cons.mpr ⟨trivial, fun _ h => absurd h List.not_mem_nil⟩⟩⟩⟩⟩⟩
set_option maxRecDepth 100000 in
theorem zq_0_18 : ∀ e ∈ zm_c0_18, zm_okq 0 e.2 := List.forall_mem_cons.mpr ⟨trivial, List.forall_mem_cons.mpr ⟨trivial, List.forall_mem_cons.mpr ⟨trivial, List.forall_mem_cons.mpr ⟨trivial, List.forall_mem_cons.mpr ⟨trivial, List.forall_mem_cons.mpr ⟨trivial, fun _ h => absurd h List.not_mem_nil⟩⟩⟩⟩⟩⟩
set_option maxRecDepth 100000 in
theorem zq_0_19 : ∀ e ∈ zm_c0_19, zm_okq 0 e.2 := List.forall_mem_cons.mpr ⟨trivial, List.forall_mem_cons.mpr ⟨trivial, List.forall_mem_cons.mpr ⟨trivial, List.forall_mem_cons.mpr ⟨trivial, List.forall_mem_cons.mpr ⟨trivial, List.forall_mem_cons.mpr ⟨trivial, fun _ h => absurd h List.not_mem_nil⟩⟩⟩⟩⟩⟩
set_option maxRecDepth 100000 in
theorem zq_0_20 : ∀ e ∈ zm_c0_20, zm_okq 0 e.2 := List.forall_mem_cons.mpr ⟨trivial, List.forall_mem_cons.mpr ⟨trivial, List.forall_mem_cons.mpr ⟨trivial, List.forall_mem_cons.mpr ⟨trivial, List.forall_mem_cons.mpr ⟨trivial, List.forall_mem_cons.mpr ⟨trivial, fun _ h => absurd h List.not_mem_nil⟩⟩⟩⟩⟩⟩
set_option maxRecDepth 100000 in
theorem zq_0_21 : ∀ e ∈ zm_c0_21, zm_okq 0 e.2 := List.forall_mem_cons.mpr ⟨trivial, List.forall_mem_cons.mpr ⟨trivial, List.forall_mem_cons.mpr ⟨trivial, List.forall_mem_cons.mpr ⟨trivial, List.forall_mem_cons.mpr ⟨trivial, List.forall_mem_cons.mpr ⟨trivial, fun _ h => absurd h List.not_mem_nil⟩⟩⟩⟩⟩⟩
set_option maxRecDepth 100000 in
theorem zq_0_22 : ∀ e ∈ zm_c0_22, zm_okq 0 e.2 := List.forall_mem_cons.mpr ⟨trivial, List.forall_mem_cons.mpr ⟨trivial, List.forall_mem_cons.mpr ⟨trivial, List.forall_mem_cons.mpr ⟨trivial, List.forall_mem_cons.mpr ⟨trivial, List.forall_mem_cons.mpr ⟨trivial, fun _ h => absurd h List.not_mem_nil⟩⟩⟩⟩⟩⟩
set_option maxRecDepth 100000 in
theorem zq_0_23 : ∀ e ∈ zm_c0_23, zm_okq 0 e.2 := List.forall_mem_cons.mpr ⟨trivial, List.forall_mem_cons.mpr ⟨trivial, List.forall_mem_cons.mpr ⟨trivial, List.forall_mem_cons.mpr ⟨trivial, List.forall_mem_cons.mpr ⟨trivial, List.forall_mem_cons.mpr ⟨trivial, fun _ h => absurd h List.not_mem_nil⟩⟩⟩⟩⟩⟩
set_option maxRecDepth 100000 in
theorem zq_1_0 : ∀ e ∈ zm_c1_0, zm_okq 1 e.2 := List.forall_mem_cons.mpr ⟨trivial, List.forall_mem_cons.mpr ⟨trivial, List.forall_mem_cons.mpr ⟨trivial, List.forall_mem_cons.mpr ⟨⟨_, _, _, rfl, rfl, zm_f1.1, zm_f1.2.1, zw_35, zw_36, zw_2⟩, List.forall_mem_cons.mpr ⟨trivial, List.forall_mem_cons.mpr ⟨trivial, fun _ h => absurd h List.not_mem_nil⟩⟩⟩⟩⟩⟩
set_option maxRecDepth 100000 in
theorem zq_1_1 : ∀ e ∈ zm_c1_1, zm_okq 1 e.2 := List.forall_mem_cons.mpr ⟨⟨⟨_, _, _, rfl, by decide, zm_f0.1, zm_f0.2.1, zm_f0.2.2, Or.inl ⟨_, zw_153, Or.inl rfl⟩⟩, zm_okw_f rfl rfl rfl zw_153⟩, List.forall_mem_cons.mpr ⟨trivial, List.forall_mem_cons.mpr ⟨⟨_, _, _, rfl, rfl, zm_f2.1, zm_f2.2.1, zw_69, zw_70, zw_3⟩, List.forall_mem_cons.mpr ⟨trivial, List.forall_mem_cons.mpr ⟨trivial, List.forall_mem_cons.mpr ⟨⟨⟨_, _, _, rfl, by decide, zm_f0.1, zm_f0.2.1, zm_f0.2.2, Or.inl ⟨_, zw_154, Or.inl rfl⟩⟩, zm_okw_f rfl rfl rfl zw_154⟩, fun _ h => absurd h List.not_mem_nil⟩⟩⟩⟩⟩⟩
set_option maxRecDepth 100000 in
theorem zq_1_2 : ∀ e ∈ zm_c1_2, zm_okq 1 e.2 := List.forall_mem_cons.mpr ⟨trivial, List.forall_mem_cons.mpr ⟨trivial, List.forall_mem_cons.mpr ⟨⟨_, rfl, zw_152, zw_151⟩, List.forall_mem_cons.mpr ⟨⟨⟨_, _, _, rfl, by decide, zm_f0.1, zm_f0.2.1, zm_f0.2.2, Or.inl ⟨_, zw_155, Or.inl rfl⟩⟩, zm_okw_f rfl rfl rfl zw_155⟩, List.forall_mem_cons.mpr ⟨trivial, fun _ h => absurd h List.not_mem_nil⟩⟩⟩⟩⟩
set_option maxRecDepth 100000 in
theorem zq_2_0 : ∀ e ∈ zm_c2_0, zm_okq 2 e.2 := List.forall_mem_cons.mpr ⟨trivial, fun _ h => absurd h List.not_mem_nil⟩
set_option maxRecDepth 100000 in
theorem zq_3_0 : ∀ e ∈ zm_c3_0, zm_okq 3 e.2 := List.forall_mem_cons.mpr ⟨trivial, List.forall_mem_cons.mpr ⟨trivial, List.forall_mem_cons.mpr ⟨trivial, List.forall_mem_cons.mpr ⟨trivial, List.forall_mem_cons.mpr ⟨⟨⟨_, _, _, rfl, by decide, zm_f1.1, zm_f1.2.1, zm_f1.2.2, Or.inl ⟨_, zw_43, Or.inl rfl⟩⟩, zm_okw_n rfl rfl⟩, List.forall_mem_cons.mpr ⟨trivial, fun _ h => absurd h List.not_mem_nil⟩⟩⟩⟩⟩⟩
set_option maxRecDepth 100000 in
theorem zq_3_1 : ∀ e ∈ zm_c3_1, zm_okq 3 e.2 := List.forall_mem_cons.mpr ⟨trivial, List.forall_mem_cons.mpr ⟨⟨_, rfl, rfl, zw_68⟩, List.forall_mem_cons.mpr ⟨⟨⟨_, _, _, rfl, by decide, zm_f1.1, zm_f1.2.1, zm_f1.2.2, Or.inl ⟨_, zw_45, Or.inl rfl⟩⟩, zm_okw_f rfl rfl rfl zw_45⟩, List.forall_mem_cons.mpr ⟨trivial, List.forall_mem_cons.mpr ⟨trivial, List.forall_mem_cons.mpr ⟨⟨_, rfl, rfl, zw_68⟩, fun _ h => absurd h List.not_mem_nil⟩⟩⟩⟩⟩⟩
set_option maxRecDepth 100000 in
theorem zq_3_2 : ∀ e ∈ zm_c3_2, zm_okq 3 e.2 := List.forall_mem_cons.mpr ⟨⟨⟨_, _, _, rfl, by decide, zm_f1.1, zm_f1.2.1, zm_f1.2.2, Or.inl ⟨_, zw_46, Or.inl rfl⟩⟩, zm_okw_f rfl rfl rfl zw_46⟩, List.forall_mem_cons.mpr ⟨trivial, fun _ h => absurd h List.not_mem_nil⟩⟩
set_option maxRecDepth 100000 in
theorem zq_4_0 : ∀ e ∈ zm_c4_0, zm_okq 4 e.2 := List.forall_mem_cons.mpr ⟨trivial, List.forall_mem_cons.mpr ⟨trivial, List.forall_mem_cons.mpr ⟨trivial, List.forall_mem_cons.mpr ⟨⟨_, _, _, rfl, rfl, zm_f3.1, zm_f3.2.1, zw_75, zw_76, zw_4⟩, List.forall_mem_cons.mpr ⟨trivial, List.forall_mem_cons.mpr ⟨trivial, fun _ h => absurd h List.not_mem_nil⟩⟩⟩⟩⟩⟩
set_option maxRecDepth 100000 in
theorem zq_4_1 : ∀ e ∈ zm_c4_1, zm_okq 4 e.2 := List.forall_mem_cons.mpr ⟨⟨⟨_, _, _, rfl, by decide, zm_f2.1, zm_f2.2.1, zm_f2.2.2, Or.inl ⟨_, zw_128, Or.inl rfl⟩⟩, zm_okw_f rfl rfl rfl zw_128⟩, List.forall_mem_cons.mpr ⟨trivial, List.forall_mem_cons.mpr ⟨⟨_, _, _, rfl, by decide, zm_f2.1, zm_f2.2.1, zm_f2.2.2, Or.inl ⟨_, zw_128, Or.inl rfl⟩⟩, List.forall_mem_cons.mpr ⟨trivial, List.forall_mem_cons.mpr ⟨⟨⟨_, _, _, rfl, by decide, zm_f3.1, zm_f3.2.1, zm_f3.2.2, Or.inl ⟨_, zw_81, Or.inl rfl⟩⟩, zm_okw_n rfl rfl⟩, List.forall_mem_cons.mpr ⟨trivial, fun _ h => absurd h List.not_mem_nil⟩⟩⟩⟩⟩⟩
set_option maxRecDepth 100000 in
theorem zq_4_2 : ∀ e ∈ zm_c4_2, zm_okq 4 e.2 := List.forall_mem_cons.mpr ⟨⟨_, _, _, rfl, rfl, zm_f4.1, zm_f4.2.1, zw_102, zw_103, zw_7⟩, List.forall_mem_cons.mpr ⟨trivial, List.forall_mem_cons.mpr ⟨trivial, List.forall_mem_cons.mpr ⟨⟨⟨_, _, _, rfl, by decide, zm_f2.1, zm_f2.2.1, zm_f2.2.2, Or.inl ⟨_, zw_130, Or.inl rfl⟩⟩, zm_okw_f rfl rfl rfl zw_130⟩, List.forall_mem_cons.mpr ⟨trivial, List.forall_mem_cons.mpr ⟨⟨_, _, _, rfl, rfl, zm_f4.1, zm_f4.2.1, zw_102, zw_103, zw_7⟩, fun _ h => absurd h List.not_mem_nil⟩⟩⟩⟩⟩⟩
set_option maxRecDepth 100000 in
theorem zq_4_3 : ∀ e ∈ zm_c4_3, zm_okq 4 e.2 := List.forall_mem_cons.mpr ⟨trivial, List.forall_mem_cons.mpr ⟨trivial, List.forall_mem_cons.mpr ⟨⟨⟨_, _, _, rfl, by decide, zm_f2.1, zm_f2.2.1, zm_f2.2.2, Or.inl ⟨_, zw_131, Or.inl rfl⟩⟩, zm_okw_f rfl rfl rfl zw_131⟩, List.forall_mem_cons.mpr ⟨trivial, List.forall_mem_cons.mpr ⟨⟨_, _, _, rfl, rfl, zm_f4.1, zm_f4.2.1, zw_102, zw_103, zw_7⟩, List.forall_mem_cons.mpr ⟨trivial, fun _ h => absurd h List.not_mem_nil⟩⟩⟩⟩⟩⟩
set_option maxRecDepth 100000 in
theorem zq_4_4 : ∀ e ∈ zm_c4_4, zm_okq 4 e.2 := List.forall_mem_cons.mpr ⟨trivial, List.forall_mem_cons.mpr ⟨⟨⟨_, _, _, rfl, by decide, zm_f2.1, zm_f2.2.1, zm_f2.2.2, Or.inl ⟨_, zw_132, Or.inl rfl⟩⟩, zm_okw_f rfl rfl rfl zw_132⟩, List.forall_mem_cons.mpr ⟨trivial, fun _ h => absurd h List.not_mem_nil⟩⟩⟩
set_option maxRecDepth 100000 in
theorem zq_5_0 : ∀ e ∈ zm_c5_0, zm_okq 5 e.2 := List.forall_mem_cons.mpr ⟨trivial, List.forall_mem_cons.mpr ⟨trivial, List.forall_mem_cons.mpr ⟨trivial, fun _ h => absurd h List.not_mem_nil⟩⟩⟩
set_option maxRecDepth 100000 in
theorem zq_6_0 : ∀ e ∈ zm_c6_0, zm_okq 6 e.2 := List.forall_mem_cons.mpr ⟨trivial, List.forall_mem_cons.mpr ⟨trivial, List.forall_mem_cons.mpr ⟨trivial, List.forall_mem_cons.mpr ⟨⟨_, List.mem_cons_self, rfl, zw_114⟩, List.forall_mem_cons.mpr ⟨⟨⟨_, _, _, rfl, by decide, zm_f4.1, zm_f4.2.1, zm_f4.2.2, Or.inl ⟨_, zw_116, Or.inl rfl⟩⟩, zm_okw_n rfl rfl⟩, List.forall_mem_cons.mpr ⟨trivial, fun _ h => absurd h List.not_mem_nil⟩⟩⟩⟩⟩⟩
set_option maxRecDepth 100000 in
theorem zq_7_0 : ∀ e ∈ zm_c7_0, zm_okq 7 e.2 := List.forall_mem_cons.mpr ⟨trivial, List.forall_mem_cons.mpr ⟨trivial, List.forall_mem_cons.mpr ⟨trivial, List.forall_mem_cons.mpr ⟨trivial, List.forall_mem_cons.mpr ⟨⟨⟨_, _, _, rfl, by decide, zm_f4.1, zm_f4.2.1, zm_f4.2.2, Or.inl ⟨_, zw_118, Or.inl rfl⟩⟩, zm_okw_n rfl rfl⟩, List.forall_mem_cons.mpr ⟨trivial, fun _ h => absurd h List.not_mem_nil⟩⟩⟩⟩⟩⟩
set_option maxRecDepth 100000 in
theorem zq_8_0 : ∀ e ∈ zm_c8_0, zm_okq 8 e.2 := List.forall_mem_cons.mpr ⟨trivial, List.forall_mem_cons.mpr ⟨trivial, List.forall_mem_cons.mpr ⟨trivial, fun _ h => absurd h List.not_mem_nil⟩⟩⟩
set_option maxRecDepth 100000 in
theorem zq_9_0 : ∀ e ∈ zm_c9_0, zm_okq 9 e.2 := List.forall_mem_cons.mpr ⟨trivial, List.forall_mem_cons.mpr ⟨trivial, List.forall_mem_cons.mpr ⟨trivial, List.forall_mem_cons.mpr ⟨⟨_, _, _, rfl, by decide, zm_f0.1, zm_f0.2.1, zm_f0.2.2, Or.inl ⟨_, zw_153, Or.inl rfl⟩⟩, List.forall_mem_cons.mpr ⟨⟨_, _, _, rfl, by decide, zm_f1.1, zm_f1.2.1, zm_f1.2.2, Or.inl ⟨_, zw_44, Or.inl rfl⟩⟩, List.forall_mem_cons.mpr ⟨trivial, fun _ h => absurd h List.not_mem_nil⟩⟩⟩⟩⟩⟩
set_option maxRecDepth 100000 in
theorem zq_9_1 : ∀ e ∈ zm_c9_1, zm_okq 9 e.2 := List.forall_mem_cons.mpr ⟨trivial, List.forall_mem_cons.mpr ⟨⟨_, _, _, rfl, by decide, zm_f0.1, zm_f0.2.1, zm_f0.2.2, Or.inl ⟨_, zw_153, Or.inl rfl⟩⟩, List.forall_mem_cons.mpr ⟨⟨_, _, _, rfl, by decide, zm_f1.1, zm_f1.2.1, zm_f1.2.2, Or.inl ⟨_, zw_42, Or.inl rfl⟩⟩, List.forall_mem_cons.mpr ⟨trivial, List.forall_mem_cons.mpr ⟨trivial, List.forall_mem_cons.mpr ⟨trivial, fun _ h => absurd h List.not_mem_nil⟩⟩⟩⟩⟩⟩
set_option maxRecDepth 100000 in
theorem zq_9_2 : ∀ e ∈ zm_c9_2, zm_okq 9 e.2 := List.forall_mem_cons.mpr ⟨trivial, List.forall_mem_cons.mpr ⟨trivial, List.forall_mem_cons.mpr ⟨⟨_, _, _, rfl, by decide, zm_f0.1, zm_f0.2.1, zm_f0.2.2, Or.inl ⟨_, zw_157, Or.inl rfl⟩⟩, List.forall_mem_cons.mpr ⟨trivial, List.forall_mem_cons.mpr ⟨trivial, List.forall_mem_cons.mpr ⟨⟨_, _, _, rfl, by decide, zm_f0.1, zm_f0.2.1, zm_f0.2.2, Or.inl ⟨_, zw_158, Or.inl rfl⟩⟩, fun _ h => absurd h List.not_mem_nil⟩⟩⟩⟩⟩⟩
set_option maxRecDepth 100000 in
theorem zq_9_3 : ∀ e ∈ zm_c9_3, zm_okq 9 e.2 := List.forall_mem_cons.mpr ⟨trivial, List.forall_mem_cons.mpr ⟨trivial, List.forall_mem_cons.mpr ⟨⟨_, _, _, rfl, by decide, zm_f0.1, zm_f0.2.1, zm_f0.2.2, Or.inl ⟨_, zw_159, Or.inl rfl⟩⟩, List.forall_mem_cons.mpr ⟨trivial, List.forall_mem_cons.mpr ⟨trivial, List.forall_mem_cons.mpr ⟨⟨_, _, _, rfl, by decide, zm_f0.1, zm_f0.2.1, zm_f0.2.2, Or.inl ⟨_, zw_160, Or.inl rfl⟩⟩, fun _ h => absurd h List.not_mem_nil⟩⟩⟩⟩⟩⟩
set_option maxRecDepth 100000 in
theorem zq_9_4 : ∀ e ∈ zm_c9_4, zm_okq 9 e.2 := List.forall_mem_cons.mpr ⟨trivial, List.forall_mem_cons.mpr ⟨trivial, List.forall_mem_cons.mpr ⟨⟨_, _, _, rfl, by decide, zm_f0.1, zm_f0.2.1, zm_f0.2.2, Or.inl ⟨_, zw_161, Or.inl rfl⟩⟩, List.forall_mem_cons.mpr ⟨trivial, List.forall_mem_cons.mpr ⟨trivial, List.forall_mem_cons.mpr ⟨trivial, fun _ h => absurd h List.not_mem_nil⟩⟩⟩⟩⟩⟩
set_option maxRecDepth 100000 in
theorem zq_10_0 : ∀ e ∈ zm_c10_0, zm_okq 10 e.2 := List.forall_mem_cons.mpr ⟨trivial, List.forall_mem_cons.mpr ⟨trivial, List.forall_mem_cons.mpr ⟨trivial, List.forall_mem_cons.mpr ⟨⟨_, _, _, rfl, by decide, zm_f0.1, zm_f0.2.1, zm_f0.2.2, Or.inl ⟨_, zw_155, Or.inl rfl⟩⟩, List.forall_mem_cons.mpr ⟨trivial, List.forall_mem_cons.mpr ⟨trivial, fun _ h => absurd h List.not_mem_nil⟩⟩⟩⟩⟩⟩
set_option maxRecDepth 100000 in
theorem zq_10_1 : ∀ e ∈ zm_c10_1, zm_okq 10 e.2 := List.forall_mem_cons.mpr ⟨trivial, List.forall_mem_cons.mpr ⟨trivial, List.forall_mem_cons.mpr ⟨trivial, List.forall_mem_cons.mpr ⟨trivial, List.forall_mem_cons.mpr ⟨trivial, List.forall_mem_cons.mpr ⟨trivial, fun _ h => absurd h List.not_mem_nil⟩⟩⟩⟩⟩⟩
set_option maxRecDepth 100000 in
theorem zq_10_2 : ∀ e ∈ zm_c10_2, zm_okq 10 e.2 := List.forall_mem_cons.mpr ⟨trivial, List.forall_mem_cons.mpr ⟨trivial, List.forall_mem_cons.mpr ⟨trivial, List.forall_mem_cons.mpr ⟨trivial, List.forall_mem_cons.mpr ⟨trivial, List.forall_mem_cons.mpr ⟨trivial, fun _ h => absurd h List.not_mem_nil⟩⟩⟩⟩⟩⟩
set_option maxRecDepth 100000 in
theorem zq_10_3 : ∀ e ∈ zm_c10_3, zm_okq 10 e.2 := List.forall_mem_cons.mpr ⟨trivial, List.forall_mem_cons.mpr ⟨trivial, List.forall_mem_cons.mpr ⟨trivial, List.forall_mem_cons.mpr ⟨trivial, List.forall_mem_cons.mpr ⟨trivial, List.forall_mem_cons.mpr ⟨trivial, fun _ h => absurd h List.not_mem_nil⟩⟩⟩⟩⟩⟩
set_option maxRecDepth 100000 in
theorem zq_11_0 : ∀ e ∈ zm_c11_0, zm_okq 11 e.2 := List.forall_mem_cons.mpr ⟨trivial, List.forall_mem_cons.mpr ⟨trivial, List.forall_mem_cons.mpr ⟨trivial, List.forall_mem_cons.mpr ⟨trivial, List.forall_mem_cons.mpr ⟨trivial, List.forall_mem_cons.mpr ⟨trivial, fun _ h => absurd h List.not_mem_nil⟩⟩⟩⟩⟩⟩
set_option maxRecDepth 100000 in
theorem zq_11_1 : ∀ e ∈ zm_c11_1, zm_okq 11 e.2 := List.forall_mem_cons.mpr ⟨trivial, List.forall_mem_cons.mpr ⟨trivial, List.forall_mem_cons.mpr ⟨trivial, List.forall_mem_cons.mpr ⟨trivial, List.forall_mem_cons.mpr ⟨trivial, List.forall_mem_cons.mpr ⟨trivial, fun _ h => absurd h List.not_mem_nil⟩⟩⟩⟩⟩⟩
set_option maxRecDepth 100000 in
theorem zq_11_2 : ∀ e ∈ zm_c11_2, zm_okq 11 e.2 := List.forall_mem_cons.mpr ⟨trivial, List.forall_mem_cons.mpr ⟨trivial, List.forall_mem_cons.mpr ⟨trivial, List.forall_mem_cons.mpr ⟨trivial, fun _ h => absurd h List.not_mem_nil⟩⟩⟩⟩
set_option maxRecDepth 100000 in
theorem zq_12_0 : ∀ e ∈ zm_c12_0, zm_okq 12 e.2 := List.forall_mem_cons.mpr ⟨trivial, List.forall_mem_cons.mpr ⟨⟨_, _, _, rfl, by decide, zm_f0.1, zm_f0.2.1, zm_f0.2.2, Or.inl ⟨_, zw_153, Or.inl rfl⟩⟩, List.forall_mem_cons.mpr ⟨trivial, List.forall_mem_cons.mpr ⟨trivial, List.forall_mem_cons.mpr ⟨trivial, fun _ h => absurd h List.not_mem_nil⟩⟩⟩⟩⟩
set_option maxRecDepth 100000 in
theorem zq_13_0 : ∀ e ∈ zm_c13_0, zm_okq 13 e.2 := List.forall_mem_cons.mpr ⟨trivial, List.forall_mem_cons.mpr ⟨trivial, List.forall_mem_cons.mpr ⟨trivial, List.forall_mem_cons.mpr ⟨trivial, List.forall_mem_cons.mpr ⟨trivial, List.forall_mem_cons.mpr ⟨trivial, fun _ h => absurd h List.not_mem_nil⟩⟩⟩⟩⟩⟩
set_option maxRecDepth 100000 in
theorem zq_13_1 : ∀ e ∈ zm_c13_1, zm_okq 13 e.2 := List.forall_mem_cons.mpr ⟨trivial, List.forall_mem_cons.mpr ⟨trivial, List.forall_mem_cons.mpr ⟨trivial, List.forall_mem_cons.mpr ⟨trivial, List.forall_mem_cons.mpr ⟨trivial, List.forall_mem_cons.mpr ⟨trivial, fun _ h => absurd h List.not_mem_nil⟩⟩⟩⟩⟩⟩
set_option maxRecDepth 100000 in
theorem zq_13_2 : ∀ e ∈ zm_c13_2, zm_okq 13 e.2 := List.forall_mem_cons.mpr ⟨trivial, List.forall_mem_cons.mpr ⟨trivial, List.forall_mem_cons.mpr ⟨trivial, List.forall_mem_cons.mpr ⟨trivial, List.forall_mem_cons.mpr ⟨trivial, List.forall_mem_cons.mpr ⟨trivial, fun _ h => absurd h List.not_mem_nil⟩⟩⟩⟩⟩⟩
set_option maxRecDepth 100000 in
theorem zq_13_3 : ∀ e ∈ zm_c13_3, zm_okq 13 e.2 := List.forall_mem_cons.mpr ⟨trivial, List.forall_mem_cons.mpr ⟨trivial, List.forall_mem_cons.mpr ⟨trivial, List.forall_mem_cons.mpr ⟨trivial, List.forall_mem_cons.mpr ⟨trivial, List.forall_mem_cons.mpr ⟨trivial, fun _ h => absurd h List.not_mem_nil⟩⟩⟩⟩⟩⟩
set_option maxRecDepth 100000 in
theorem zq_13_4 : ∀ e ∈ zm_c13_4, zm_okq 13 e.2 := List.forall_mem_cons.mpr ⟨trivial, List.forall_mem_cons.mpr ⟨trivial, List.forall_mem_cons.mpr ⟨trivial, List.forall_mem_cons.mpr ⟨trivial, List.forall_mem_cons.mpr ⟨trivial, List.forall_mem_cons.mpr ⟨⟨_, _, _, rfl, by decide, zm_f1.1, zm_f1.2.1, zm_f1.2.2, Or.inl ⟨_, zw_41, Or.inl rfl⟩⟩, fun _ h => absurd h List.not_mem_nil⟩⟩⟩⟩⟩⟩
set_option maxRecDepth 100000 in
theorem zq_13_5 : ∀ e ∈ zm_c13_5, zm_okq 13 e.2 := List.forall_mem_cons.mpr ⟨trivial, List.forall_mem_cons.mpr ⟨trivial, List.forall_mem_cons.mpr ⟨trivial, List.forall_mem_cons.mpr ⟨trivial, List.forall_mem_cons.mpr ⟨trivial, List.forall_mem_cons.mpr ⟨trivial, fun _ h => absurd h List.not_mem_nil⟩⟩⟩⟩⟩⟩
set_option maxRecDepth 100000 in
theorem zq_13_6 : ∀ e ∈ zm_c13_6, zm_okq 13 e.2 := List.forall_mem_cons.mpr ⟨trivial, List.forall_mem_cons.mpr ⟨trivial, List.forall_mem_cons.mpr ⟨trivial, List.forall_mem_cons.mpr ⟨trivial, List.forall_mem_cons.mpr ⟨trivial, List.forall_mem_cons.mpr ⟨trivial, fun _ h => absurd h List.not_mem_nil⟩⟩⟩⟩⟩⟩
set_option maxRecDepth 100000 in
theorem zq_13_7 : ∀ e ∈ zm_c13_7, zm_okq 13 e.2 := List.forall_mem_cons.mpr ⟨trivial, List.forall_mem_cons.mpr ⟨trivial, List.forall_mem_cons.mpr ⟨trivial, List.forall_mem_cons.mpr ⟨⟨_, _, _, rfl, by decide, zm_f1.1, zm_f1.2.1, zm_f1.2.2, Or.inl ⟨_, zw_45, Or.inl rfl⟩⟩, List.forall_mem_cons.mpr ⟨trivial, List.forall_mem_cons.mpr ⟨⟨_, _, _, rfl, by decide, zm_f1.1, zm_f1.2.1, zm_f1.2.2, Or.inl ⟨_, zw_41, Or.inl rfl⟩⟩, fun _ h => absurd h List.not_mem_nil⟩⟩⟩⟩⟩⟩
set_option maxRecDepth 100000 in
theorem zq_13_8 : ∀ e ∈ zm_c13_8, zm_okq 13 e.2 := List.forall_mem_cons.mpr ⟨trivial, List.forall_mem_cons.mpr ⟨trivial, List.forall_mem_cons.mpr ⟨trivial, List.forall_mem_cons.mpr ⟨trivial, List.forall_mem_cons.mpr ⟨trivial, List.forall_mem_cons.mpr ⟨⟨_, _, _, rfl, by decide, zm_f1.1, zm_f1.2.1, zm_f1.2.2, Or.inl ⟨_, zw_41, Or.inl rfl⟩⟩, fun _ h => absurd h List.not_mem_nil⟩⟩⟩⟩⟩⟩
set_option maxRecDepth 100000 in
theorem zq_13_9 : ∀ e ∈ zm_c13_9, zm_okq 13 e.2 := List.forall_mem_cons.mpr ⟨trivial, List.forall_mem_cons.mpr ⟨trivial, List.forall_mem_cons.mpr ⟨⟨⟨_, _, _, rfl, by decide, zm_f1.1, zm_f1.2.1, zm_f1.2.2, Or.inl ⟨_, zw_41, Or.inl rfl⟩⟩, zm_okw_n rfl rfl⟩, List.forall_mem_cons.mpr ⟨trivial, List.forall_mem_cons.mpr ⟨trivial, List.forall_mem_cons.mpr ⟨trivial, fun _ h => absurd h List.not_mem_nil⟩⟩⟩⟩⟩⟩
set_option maxRecDepth 100000 in
theorem zq_13_10 : ∀ e ∈ zm_c13_10, zm_okq 13 e.2 := List.forall_mem_cons.mpr ⟨⟨_, _, _, rfl, by decide, zm_f1.1, zm_f1.2.1, zm_f1.2.2, Or.inl ⟨_, zw_41, Or.inl rfl⟩⟩, List.forall_mem_cons.mpr ⟨trivial, fun _ h => absurd h List.not_mem_nil⟩⟩
set_option maxRecDepth 100000 in
theorem zq_14_0 : ∀ e ∈ zm_c14_0, zm_okq 14 e.2 := List.forall_mem_cons.mpr ⟨trivial, List.forall_mem_cons.mpr ⟨trivial, List.forall_mem_cons.mpr ⟨trivial, List.forall_mem_cons.mpr ⟨trivial, List.forall_mem_cons.mpr ⟨trivial, List.forall_mem_cons.mpr ⟨trivial, fun _ h => absurd h List.not_mem_nil⟩⟩⟩⟩⟩⟩
set_option maxRecDepth 100000 in
theorem zq_14_1 : ∀ e ∈ zm_c14_1, zm_okq 14 e.2 := List.forall_mem_cons.mpr ⟨trivial, fun _ h => absurd h List.not_mem_nil⟩
set_option maxRecDepth 100000 in
theorem zq_15_0 : ∀ e ∈ zm_c15_0, zm_okq 15 e.2 := List.forall_mem_cons.mpr ⟨trivial, List.forall_mem_cons.mpr ⟨trivial, List.forall_mem_cons.mpr ⟨trivial, List.forall_mem_cons.mpr ⟨trivial, List.forall_mem_cons.mpr ⟨trivial, List.forall_mem_cons.mpr ⟨trivial, fun _ h => absurd h List.not_mem_nil⟩⟩⟩⟩⟩⟩
set_option maxRecDepth 100000 in
theorem zq_15_1 : ∀ e ∈ zm_c15_1, zm_okq 15 e.2 := List.forall_mem_cons.mpr ⟨trivial, List.forall_mem_cons.mpr ⟨trivial, List.forall_mem_cons.mpr ⟨trivial, List.forall_mem_cons.mpr ⟨trivial, List.forall_mem_cons.mpr ⟨trivial, List.forall_mem_cons.mpr ⟨trivial, fun _ h => absurd h List.not_mem_nil⟩⟩⟩⟩⟩⟩
set_option maxRecDepth 100000 in
theorem zq_16_0 : ∀ e ∈ zm_c16_0, zm_okq 16 e.2 := List.forall_mem_cons.mpr ⟨trivial, List.forall_mem_cons.mpr ⟨⟨_, _, _, rfl, by decide, zm_f0.1, zm_f0.2.1, zm_f0.2.2, Or.inl ⟨_, zw_153, Or.inl rfl⟩⟩, List.forall_mem_cons.mpr ⟨trivial, List.forall_mem_cons.mpr ⟨trivial, List.forall_mem_cons.mpr ⟨trivial, List.forall_mem_cons.mpr ⟨⟨_, _, _, rfl, by decide, zm_f0.1, zm_f0.2.1, zm_f0.2.2, Or.inl ⟨_, zw_155, Or.inl rfl⟩⟩, fun _ h => absurd h List.not_mem_nil⟩⟩⟩⟩⟩⟩
set_option maxRecDepth 100000 in
theorem zq_16_1 : ∀ e ∈ zm_c16_1, zm_okq 16 e.2 := List.forall_mem_cons.mpr ⟨trivial, List.forall_mem_cons.mpr ⟨⟨_, _, _, rfl, by decide, zm_f6.1, zm_f6.2.1, zm_f6.2.2, Or.inl ⟨_, zw_386, Or.inl rfl⟩⟩, List.forall_mem_cons.mpr ⟨trivial, List.forall_mem_cons.mpr ⟨trivial, List.forall_mem_cons.mpr ⟨trivial, List.forall_mem_cons.mpr ⟨⟨_, _, _, rfl, by decide, zm_f6.1, zm_f6.2.1, zm_f6.2.2, Or.inl ⟨_, zw_388, Or.inl rfl⟩⟩, fun _ h => absurd h List.not_mem_nil⟩⟩⟩⟩⟩⟩
set_option maxRecDepth 100000 in
theorem zq_16_2 : ∀ e ∈ zm_c16_2, zm_okq 16 e.2 := List.forall_mem_cons.mpr ⟨trivial, fun _ h => absurd h List.not_mem_nil⟩
set_option maxRecDepth 100000 in
theorem zq_17_0 : ∀ e ∈ zm_c17_0, zm_okq 17 e.2 := List.forall_mem_cons.mpr ⟨trivial, List.forall_mem_cons.mpr ⟨trivial, List.forall_mem_cons.mpr ⟨trivial, List.forall_mem_cons.mpr ⟨trivial, List.forall_mem_cons.mpr ⟨⟨_, _, _, rfl, by decide, zm_f1.1, zm_f1.2.1, zm_f1.2.2, Or.inl ⟨_, zw_49, Or.inl rfl⟩⟩, List.forall_mem_cons.mpr ⟨trivial, fun _ h => absurd h List.not_mem_nil⟩⟩⟩⟩⟩⟩
set_option maxRecDepth 100000 in
theorem zq_17_1 : ∀ e ∈ zm_c17_1, zm_okq 17 e.2 := List.forall_mem_cons.mpr ⟨⟨_, _, _, rfl, by decide, zm_f1.1, zm_f1.2.1, zm_f1.2.2, Or.inl ⟨_, zw_48, Or.inl rfl⟩⟩, List.forall_mem_cons.mpr ⟨trivial, List.forall_mem_cons.mpr ⟨trivial, List.forall_mem_cons.mpr ⟨⟨_, _, _, rfl, by decide, zm_f1.1, zm_f1.2.1, zm_f1.2.2, Or.inl ⟨_, zw_45, Or.inl rfl⟩⟩, List.forall_mem_cons.mpr ⟨trivial, List.forall_mem_cons.mpr ⟨⟨_, _, _, rfl, by decide, zm_f1.1, zm_f1.2.1, zm_f1.2.2, Or.inl ⟨_, zw_49, Or.inl rfl⟩⟩, fun _ h => absurd h List.not_mem_nil⟩⟩⟩⟩⟩⟩
set_option maxRecDepth 100000 in
theorem zq_17_2 : ∀ e ∈ zm_c17_2, zm_okq 17 e.2 := List.forall_mem_cons.mpr ⟨trivial, List.forall_mem_cons.mpr ⟨trivial, List.forall_mem_cons.mpr ⟨trivial, List.forall_mem_cons.mpr ⟨trivial, List.forall_mem_cons.mpr ⟨trivial, List.forall_mem_cons.mpr ⟨trivial, fun _ h => absurd h List.not_mem_nil⟩⟩⟩⟩⟩⟩
set_option maxRecDepth 100000 in
theorem zq_17_3 : ∀ e ∈ zm_c17_3, zm_okq 17 e.2 := List.forall_mem_cons.mpr ⟨trivial, List.forall_mem_cons.mpr ⟨trivial, List.forall_mem_cons.mpr ⟨⟨_, _, _, rfl, by decide, zm_f1.1, zm_f1.2.1, zm_f1.2.2, Or.inl ⟨_, zw_45, Or.inl rfl⟩⟩, List.forall_mem_cons.mpr ⟨trivial, List.forall_mem_cons.mpr ⟨⟨_, _, _, rfl, by decide, zm_f1.1, zm_f1.2.1, zm_f1.2.2, Or.inl ⟨_, zw_49, Or.inl rfl⟩⟩, List.forall_mem_cons.mpr ⟨trivial, fun _ h => absurd h List.not_mem_nil⟩⟩⟩⟩⟩⟩
set_option maxRecDepth 100000 in
theorem zq_17_4 : ∀ e ∈ zm_c17_4, zm_okq 17 e.2 := List.forall_mem_cons.mpr ⟨trivial, List.forall_mem_cons.mpr ⟨trivial, List.forall_mem_cons.mpr ⟨trivial, List.forall_mem_cons.mpr ⟨trivial, List.forall_mem_cons.mpr ⟨trivial, List.forall_mem_cons.mpr ⟨⟨_, _, _, rfl, by decide, zm_f1.1, zm_f1.2.1, zm_f1.2.2, Or.inl ⟨_, zw_49, Or.inl rfl⟩⟩, fun _ h => absurd h List.not_mem_nil⟩⟩⟩⟩⟩⟩
set_option maxRecDepth 100000 in
theorem zq_17_5 : ∀ e ∈ zm_c17_5, zm_okq 17 e.2 := List.forall_mem_cons.mpr ⟨trivial, List.forall_mem_cons.mpr ⟨trivial, List.forall_mem_cons.mpr ⟨⟨⟨_, _, _, rfl, by decide, zm_f1.1, zm_f1.2.1, zm_f1.2.2, Or.inl ⟨_, zw_49, Or.inl rfl⟩⟩, zm_okw_n rfl rfl⟩, List.forall_mem_cons.mpr ⟨trivial, List.forall_mem_cons.mpr ⟨trivial, List.forall_mem_cons.mpr ⟨trivial, fun _ h => absurd h List.not_mem_nil⟩⟩⟩⟩⟩⟩
set_option maxRecDepth 100000 in
theorem zq_17_6 : ∀ e ∈ zm_c17_6, zm_okq 17 e.2 := List.forall_mem_cons.mpr ⟨trivial, List.forall_mem_cons.mpr ⟨⟨_, _, _, rfl, by decide, zm_f1.1, zm_f1.2.1, zm_f1.2.2, Or.inl ⟨_, zw_49, Or.inl rfl⟩⟩, List.forall_mem_cons.mpr ⟨trivial, List.forall_mem_cons.mpr ⟨⟨_, _, _, rfl, by decide, zm_f1.1, zm_f1.2.1, zm_f1.2.2, Or.inl ⟨_, zw_48, Or.inl rfl⟩⟩, List.forall_mem_cons.mpr ⟨trivial, List.forall_mem_cons.mpr ⟨trivial, fun _ h => absurd h List.not_mem_nil⟩⟩⟩⟩⟩⟩
set_option maxRecDepth 100000 in
theorem zq_17_7 : ∀ e ∈ zm_c17_7, zm_okq 17 e.2 := List.forall_mem_cons.mpr ⟨⟨_, _, _, rfl, by decide, zm_f1.1, zm_f1.2.1, zm_f1.2.2, Or.inl ⟨_, zw_45, Or.inl rfl⟩⟩, List.forall_mem_cons.mpr ⟨trivial, List.forall_mem_cons.mpr ⟨⟨_, _, _, rfl, by decide, zm_f1.1, zm_f1.2.1, zm_f1.2.2, Or.inl ⟨_, zw_49, Or.inl rfl⟩⟩, List.forall_mem_cons.mpr ⟨trivial, List.forall_mem_cons.mpr ⟨trivial, List.forall_mem_cons.mpr ⟨trivial, fun _ h => absurd h List.not_mem_nil⟩⟩⟩⟩⟩⟩
set_option maxRecDepth 100000 in
theorem zq_17_8 : ∀ e ∈ zm_c17_8, zm_okq 17 e.2 := List.forall_mem_cons.mpr ⟨trivial, List.forall_mem_cons.mpr ⟨trivial, List.forall_mem_cons.mpr ⟨trivial, List.forall_mem_cons.mpr ⟨trivial, List.forall_mem_cons.mpr ⟨trivial, List.forall_mem_cons.mpr ⟨trivial, fun _ h => absurd h List.not_mem_nil⟩⟩⟩⟩⟩⟩
set_option maxRecDepth 100000 in
theorem zq_17_9 : ∀ e ∈ zm_c17_9, zm_okq 17 e.2 := List.forall_mem_cons.mpr ⟨⟨_, _, _, rfl, by decide, zm_f1.1, zm_f1.2.1, zm_f1.2.2, Or.inl ⟨_, zw_49, Or.inl rfl⟩⟩, List.forall_mem_cons.mpr ⟨trivial, List.forall_mem_cons.mpr ⟨trivial, List.forall_mem_cons.mpr ⟨⟨⟨_, _, _, rfl, by decide, zm_f1.1, zm_f1.2.1, zm_f1.2.2, Or.inl ⟨_, zw_49, Or.inl rfl⟩⟩, zm_okw_n rfl rfl⟩, List.forall_mem_cons.mpr ⟨⟨_, _, _, rfl, rfl, zm_f6.1, zm_f6.2.1, zw_326, zw_327, zw_14⟩, List.forall_mem_cons.mpr ⟨trivial, fun _ h => absurd h List.not_mem_nil⟩⟩⟩⟩⟩⟩
set_option maxRecDepth 100000 in
theorem zq_17_10 : ∀ e ∈ zm_c17_10, zm_okq 17 e.2 := List.forall_mem_cons.mpr ⟨trivial, List.forall_mem_cons.mpr ⟨trivial, List.forall_mem_cons.mpr ⟨⟨_, _, _, rfl, by decide, zm_f1.1, zm_f1.2.1, zm_f1.2.2, Or.inl ⟨_, zw_47, Or.inl rfl⟩⟩, List.forall_mem_cons.mpr ⟨trivial, List.forall_mem_cons.mpr ⟨trivial, List.forall_mem_cons.mpr ⟨trivial, fun _ h => absurd h List.not_mem_nil⟩⟩⟩⟩⟩⟩
set_option maxRecDepth 100000 in
theorem zq_17_11 : ∀ e ∈ zm_c17_11, zm_okq 17 e.2 := List.forall_mem_cons.mpr ⟨trivial, fun _ h => absurd h List.not_mem_nil⟩
set_option maxRecDepth 100000 in
theorem zq_18_0 : ∀ e ∈ zm_c18_0, zm_okq 18 e.2 := List.forall_mem_cons.mpr ⟨trivial, List.forall_mem_cons.mpr ⟨trivial, List.forall_mem_cons.mpr ⟨⟨_, _, _, rfl, by decide, zm_f1.1, zm_f1.2.1, zm_f1.2.2, Or.inl ⟨_, zw_41, Or.inl rfl⟩⟩, List.forall_mem_cons.mpr ⟨⟨⟨_, _, _, rfl, by decide, zm_f1.1, zm_f1.2.1, zm_f1.2.2, Or.inl ⟨_, zw_48, Or.inl rfl⟩⟩, zm_okw_n rfl rfl⟩, List.forall_mem_cons.mpr ⟨trivial, List.forall_mem_cons.mpr ⟨trivial, fun _ h => absurd h List.not_mem_nil⟩⟩⟩⟩⟩⟩
set_option maxRecDepth 100000 in
theorem zq_18_1 : ∀ e ∈ zm_c18_1, zm_okq 18 e.2 := List.forall_mem_cons.mpr ⟨⟨⟨_, _, _, rfl, by decide, zm_f1.1, zm_f1.2.1, zm_f1.2.2, Or.inl ⟨_, zw_41, Or.inl rfl⟩⟩, zm_okw_n rfl rfl⟩, List.forall_mem_cons.mpr ⟨trivial, List.forall_mem_cons.mpr ⟨trivial, List.forall_mem_cons.mpr ⟨⟨⟨_, _, _, rfl, by decide, zm_f1.1, zm_f1.2.1, zm_f1.2.2, Or.inl ⟨_, zw_49, Or.inl rfl⟩⟩, zm_okw_n rfl rfl⟩, List.forall_mem_cons.mpr ⟨trivial, List.forall_mem_cons.mpr ⟨trivial, fun _ h => absurd h List.not_mem_nil⟩⟩⟩⟩⟩⟩
set_option maxRecDepth 100000 in
theorem zq_18_2 : ∀ e ∈ zm_c18_2, zm_okq 18 e.2 := List.forall_mem_cons.mpr ⟨⟨⟨_, _, _, rfl, by decide, zm_f1.1, zm_f1.2.1, zm_f1.2.2, Or.inl ⟨_, zw_47, Or.inl rfl⟩⟩, zm_okw_n rfl rfl⟩, List.forall_mem_cons.mpr ⟨trivial, fun _ h => absurd h List.not_mem_nil⟩⟩
set_option maxRecDepth 100000 in
theorem zq_19_0 : ∀ e ∈ zm_c19_0, zm_okq 19 e.2 := List.forall_mem_cons.mpr ⟨trivial, List.forall_mem_cons.mpr ⟨trivial, List.forall_mem_cons.mpr ⟨trivial, List.forall_mem_cons.mpr ⟨trivial, List.forall_mem_cons.mpr ⟨trivial, List.forall_mem_cons.mpr ⟨trivial, fun _ h => absurd h List.not_mem_nil⟩⟩⟩⟩⟩⟩
set_option maxRecDepth 100000 in
theorem zq_19_1 : ∀ e ∈ zm_c19_1, zm_okq 19 e.2 := List.forall_mem_cons.mpr ⟨trivial, List.forall_mem_cons.mpr ⟨trivial, List.forall_mem_cons.mpr ⟨trivial, List.forall_mem_cons.mpr ⟨trivial, fun _ h => absurd h List.not_mem_nil⟩⟩⟩⟩
set_option maxRecDepth 100000 in
theorem zq_20_0 : ∀ e ∈ zm_c20_0, zm_okq 20 e.2 := List.forall_mem_cons.mpr ⟨trivial, List.forall_mem_cons.mpr ⟨trivial, List.forall_mem_cons.mpr ⟨trivial, List.forall_mem_cons.mpr ⟨trivial, List.forall_mem_cons.mpr ⟨⟨_, _, _, rfl, by decide, zm_f1.1, zm_f1.2.1, zm_f1.2.2, Or.inl ⟨_, zw_49, Or.inl rfl⟩⟩, List.forall_mem_cons.mpr ⟨⟨⟨_, _, _, rfl, by decide, zm_f1.1, zm_f1.2.1, zm_f1.2.2, Or.inl ⟨_, zw_43, Or.inl rfl⟩⟩, zm_okw_n rfl rfl⟩, fun _ h => absurd h List.not_mem_nil⟩⟩⟩⟩⟩⟩
set_option maxRecDepth 100000 in
theorem zq_20_1 : ∀ e ∈ zm_c20_1, zm_okq 20 e.2 := List.forall_mem_cons.mpr ⟨trivial, fun _ h => absurd h List.not_mem_nil⟩
set_option maxRecDepth 100000 in
theorem zq_21_0 : ∀ e ∈ zm_c21_0, zm_okq 21 e.2 := List.forall_mem_cons.mpr ⟨trivial, List.forall_mem_cons.mpr ⟨⟨_, _, _, rfl, by decide, zm_f1.1, zm_f1.2.1, zm_f1.2.2, Or.inl ⟨_, zw_47, Or.inl rfl⟩⟩, List.forall_mem_cons.mpr ⟨trivial, List.forall_mem_cons.mpr ⟨trivial, List.forall_mem_cons.mpr ⟨trivial, List.forall_mem_cons.mpr ⟨⟨_, _, _, rfl, by decide, zm_f1.1, zm_f1.2.1, zm_f1.2.2, Or.inl ⟨_, zw_49, Or.inl rfl⟩⟩, fun _ h => absurd h List.not_mem_nil⟩⟩⟩⟩⟩⟩
set_option maxRecDepth 100000 in
theorem zq_21_1 : ∀ e ∈ zm_c21_1, zm_okq 21 e.2 := List.forall_mem_cons.mpr ⟨trivial, List.forall_mem_cons.mpr ⟨⟨_, _, _, rfl, by decide, zm_f1.1, zm_f1.2.1, zm_f1.2.2, Or.inl ⟨_, zw_48, Or.inl rfl⟩⟩, List.forall_mem_cons.mpr ⟨trivial, List.forall_mem_cons.mpr ⟨trivial, List.forall_mem_cons.mpr ⟨trivial, List.forall_mem_cons.mpr ⟨⟨_, _, _, rfl, by decide, zm_f1.1, zm_f1.2.1, zm_f1.2.2, Or.inl ⟨_, zw_45, Or.inl rfl⟩⟩, fun _ h => absurd h List.not_mem_nil⟩⟩⟩⟩⟩⟩
set_option maxRecDepth 100000 in
theorem zq_21_2 : ∀ e ∈ zm_c21_2, zm_okq 21 e.2 := List.forall_mem_cons.mpr ⟨trivial, List.forall_mem_cons.mpr ⟨⟨_, _, _, rfl, by decide, zm_f1.1, zm_f1.2.1, zm_f1.2.2, Or.inl ⟨_, zw_49, Or.inl rfl⟩⟩, List.forall_mem_cons.mpr ⟨trivial, List.forall_mem_cons.mpr ⟨trivial, List.forall_mem_cons.mpr ⟨trivial, List.forall_mem_cons.mpr ⟨trivial, fun _ h => absurd h List.not_mem_nil⟩⟩⟩⟩⟩⟩
set_option maxRecDepth 100000 in
theorem zq_21_3 : ∀ e ∈ zm_c21_3, zm_okq 21 e.2 := List.forall_mem_cons.mpr ⟨⟨_, _, _, rfl, by decide, zm_f1.1, zm_f1.2.1, zm_f1.2.2, Or.inl ⟨_, zw_46, Or.inl rfl⟩⟩, List.forall_mem_cons.mpr ⟨trivial, List.forall_mem_cons.mpr ⟨⟨_, _, _, rfl, by decide, zm_f1.1, zm_f1.2.1, zm_f1.2.2, Or.inl ⟨_, zw_47, Or.inl rfl⟩⟩, List.forall_mem_cons.mpr ⟨trivial, List.forall_mem_cons.mpr ⟨⟨_, _, _, rfl, by decide, zm_f1.1, zm_f1.2.1, zm_f1.2.2, Or.inl ⟨_, zw_45, Or.inl rfl⟩⟩, List.forall_mem_cons.mpr ⟨trivial, fun _ h => absurd h List.not_mem_nil⟩⟩⟩⟩⟩⟩
set_option maxRecDepth 100000 in
theorem zq_21_4 : ∀ e ∈ zm_c21_4, zm_okq 21 e.2 := List.forall_mem_cons.mpr ⟨⟨_, _, _, rfl, by decide, zm_f1.1, zm_f1.2.1, zm_f1.2.2, Or.inl ⟨_, zw_49, Or.inl rfl⟩⟩, List.forall_mem_cons.mpr ⟨trivial, List.forall_mem_cons.mpr ⟨trivial, List.forall_mem_cons.mpr ⟨trivial, List.forall_mem_cons.mpr ⟨trivial, List.forall_mem_cons.mpr ⟨⟨_, _, _, rfl, by decide, zm_f1.1, zm_f1.2.1, zm_f1.2.2, Or.inl ⟨_, zw_47, Or.inl rfl⟩⟩, fun _ h => absurd h List.not_mem_nil⟩⟩⟩⟩⟩⟩
set_option maxRecDepth 100000 in
theorem zq_21_5 : ∀ e ∈ zm_c21_5, zm_okq 21 e.2 := List.forall_mem_cons.mpr ⟨trivial, List.forall_mem_cons.mpr ⟨trivial, List.forall_mem_cons.mpr ⟨⟨⟨_, _, _, rfl, by decide, zm_f1.1, zm_f1.2.1, zm_f1.2.2, Or.inl ⟨_, zw_47, Or.inl rfl⟩⟩, zm_okw_n rfl rfl⟩, List.forall_mem_cons.mpr ⟨trivial, List.forall_mem_cons.mpr ⟨trivial, List.forall_mem_cons.mpr ⟨⟨_, _, _, rfl, by decide, zm_f1.1, zm_f1.2.1, zm_f1.2.2, Or.inl ⟨_, zw_49, Or.inl rfl⟩⟩, fun _ h => absurd h List.not_mem_nil⟩⟩⟩⟩⟩⟩
set_option maxRecDepth 100000 in
theorem zq_21_6 : ∀ e ∈ zm_c21_6, zm_okq 21 e.2 := List.forall_mem_cons.mpr ⟨trivial, List.forall_mem_cons.mpr ⟨trivial, List.forall_mem_cons.mpr ⟨⟨⟨_, _, _, rfl, by decide, zm_f1.1, zm_f1.2.1, zm_f1.2.2, Or.inl ⟨_, zw_49, Or.inl rfl⟩⟩, zm_okw_n rfl rfl⟩, List.forall_mem_cons.mpr ⟨trivial, List.forall_mem_cons.mpr ⟨trivial, fun _ h => absurd h List.not_mem_nil⟩⟩⟩⟩⟩
set_option maxRecDepth 100000 in
theorem zq_22_0 : ∀ e ∈ zm_c22_0, zm_okq 22 e.2 := List.forall_mem_cons.mpr ⟨trivial, List.forall_mem_cons.mpr ⟨trivial, List.forall_mem_cons.mpr ⟨trivial, List.forall_mem_cons.mpr ⟨trivial, List.forall_mem_cons.mpr ⟨trivial, List.forall_mem_cons.mpr ⟨trivial, fun _ h => absurd h List.not_mem_nil⟩⟩⟩⟩⟩⟩
set_option maxRecDepth 100000 in
theorem zq_22_1 : ∀ e ∈ zm_c22_1, zm_okq 22 e.2 := List.forall_mem_cons.mpr ⟨trivial, List.forall_mem_cons.mpr ⟨trivial, List.forall_mem_cons.mpr ⟨trivial, List.forall_mem_cons.mpr ⟨trivial, List.forall_mem_cons.mpr ⟨trivial, List.forall_mem_cons.mpr ⟨trivial, fun _ h => absurd h List.not_mem_nil⟩⟩⟩⟩⟩⟩
set_option maxRecDepth 100000 in
theorem zq_22_2 : ∀ e ∈ zm_c22_2, zm_okq 22 e.2 := List.forall_mem_cons.mpr ⟨trivial, List.forall_mem_cons.mpr ⟨trivial, fun _ h => absurd h List.not_mem_nil⟩⟩
set_option maxRecDepth 100000 in
theorem zq_23_0 : ∀ e ∈ zm_c23_0, zm_okq 23 e.2 := List.forall_mem_cons.mpr ⟨trivial, List.forall_mem_cons.mpr ⟨trivial, List.forall_mem_cons.mpr ⟨trivial, List.forall_mem_cons.mpr ⟨trivial, List.forall_mem_cons.mpr ⟨⟨_, _, _, rfl, by decide, zm_f1.1, zm_f1.2.1, zm_f1.2.2, Or.inl ⟨_, zw_47, Or.inl rfl⟩⟩, List.forall_mem_cons.mpr ⟨trivial, fun _ h => absurd h List.not_mem_nil⟩⟩⟩⟩⟩⟩
set_option maxRecDepth 100000 in
theorem zq_23_1 : ∀ e ∈ zm_c23_1, zm_okq 23 e.2 := List.forall_mem_cons.mpr ⟨trivial, List.forall_mem_cons.mpr ⟨⟨_, _, _, rfl, by decide, zm_f1.1, zm_f1.2.1, zm_f1.2.2, Or.inl ⟨_, zw_46, Or.inl rfl⟩⟩, List.forall_mem_cons.mpr ⟨trivial, List.forall_mem_cons.mpr ⟨trivial, List.forall_mem_cons.mpr ⟨trivial, List.forall_mem_cons.mpr ⟨trivial, fun _ h => absurd h List.not_mem_nil⟩⟩⟩⟩⟩⟩
set_option maxRecDepth 100000 in
theorem zq_23_2 : ∀ e ∈ zm_c23_2, zm_okq 23 e.2 := List.forall_mem_cons.mpr ⟨trivial, List.forall_mem_cons.mpr ⟨trivial, List.forall_mem_cons.mpr ⟨trivial, List.forall_mem_cons.mpr ⟨trivial, List.forall_mem_cons.mpr ⟨trivial, List.forall_mem_cons.mpr ⟨trivial, fun _ h => absurd h List.not_mem_nil⟩⟩⟩⟩⟩⟩
set_option maxRecDepth 100000 in
theorem zq_24_0 : ∀ e ∈ zm_c24_0, zm_okq 24 e.2 := List.forall_mem_cons.mpr ⟨trivial, List.forall_mem_cons.mpr ⟨trivial, List.forall_mem_cons.mpr ⟨⟨⟨_, _, _, rfl, by decide, zm_f1.1, zm_f1.2.1, zm_f1.2.2, Or.inl ⟨_, zw_50, Or.inl rfl⟩⟩, zm_okw_n rfl rfl⟩, List.forall_mem_cons.mpr ⟨trivial, List.forall_mem_cons.mpr ⟨trivial, List.forall_mem_cons.mpr ⟨trivial, fun _ h => absurd h List.not_mem_nil⟩⟩⟩⟩⟩⟩
set_option maxRecDepth 100000 in
theorem zq_24_1 : ∀ e ∈ zm_c24_1, zm_okq 24 e.2 := List.forall_mem_cons.mpr ⟨trivial, List.forall_mem_cons.mpr ⟨trivial, List.forall_mem_cons.mpr ⟨trivial, List.forall_mem_cons.mpr ⟨⟨_, _, _, rfl, by decide, zm_f1.1, zm_f1.2.1, zm_f1.2.2, Or.inl ⟨_, zw_49, Or.inl rfl⟩⟩, List.forall_mem_cons.mpr ⟨trivial, List.forall_mem_cons.mpr ⟨⟨_, _, _, rfl, by decide, zm_f1.1, zm_f1.2.1, zm_f1.2.2, Or.inl ⟨_, zw_48, Or.inl rfl⟩⟩, fun _ h => absurd h List.not_mem_nil⟩⟩⟩⟩⟩⟩
set_option maxRecDepth 100000 in
theorem zq_24_2 : ∀ e ∈ zm_c24_2, zm_okq 24 e.2 := List.forall_mem_cons.mpr ⟨trivial, List.forall_mem_cons.mpr ⟨trivial, List.forall_mem_cons.mpr ⟨trivial, List.forall_mem_cons.mpr ⟨trivial, List.forall_mem_cons.mpr ⟨trivial, List.forall_mem_cons.mpr ⟨trivial, fun _ h => absurd h List.not_mem_nil⟩⟩⟩⟩⟩⟩
set_option maxRecDepth 100000 in
theorem zq_24_3 : ∀ e ∈ zm_c24_3, zm_okq 24 e.2 := List.forall_mem_cons.mpr ⟨trivial, fun _ h => absurd h List.not_mem_nil⟩
set_option maxRecDepth 100000 in
theorem zq_25_0 : ∀ e ∈ zm_c25_0, zm_okq 25 e.2 := List.forall_mem_cons.mpr ⟨trivial, List.forall_mem_cons.mpr ⟨trivial, List.forall_mem_cons.mpr ⟨⟨_, _, _, rfl, by decide, zm_f1.1, zm_f1.2.1, zm_f1.2.2, Or.inl ⟨_, zw_49, Or.inl rfl⟩⟩, List.forall_mem_cons.mpr ⟨trivial, List.forall_mem_cons.mpr ⟨⟨_, _, _, rfl, by decide, zm_f1.1, zm_f1.2.1, zm_f1.2.2, Or.inl ⟨_, zw_48, Or.inl rfl⟩⟩, List.forall_mem_cons.mpr ⟨trivial, fun _ h => absurd h List.not_mem_nil⟩⟩⟩⟩⟩⟩
set_option maxRecDepth 100000 in
theorem zq_25_1 : ∀ e ∈ zm_c25_1, zm_okq 25 e.2 := List.forall_mem_cons.mpr ⟨trivial, List.forall_mem_cons.mpr ⟨trivial, List.forall_mem_cons.mpr ⟨⟨_, _, _, rfl, by decide, zm_f1.1, zm_f1.2.1, zm_f1.2.2, Or.inl ⟨_, zw_45, Or.inl rfl⟩⟩, List.forall_mem_cons.mpr ⟨trivial, List.forall_mem_cons.mpr ⟨⟨_, _, _, rfl, by decide, zm_f1.1, zm_f1.2.1, zm_f1.2.2, Or.inl ⟨_, zw_49, Or.inl rfl⟩⟩, List.forall_mem_cons.mpr ⟨trivial, fun _ h => absurd h List.not_mem_nil⟩⟩⟩⟩⟩⟩
set_option maxRecDepth 100000 in
theorem zq_25_2 : ∀ e ∈ zm_c25_2, zm_okq 25 e.2 := List.forall_mem_cons.mpr ⟨trivial, List.forall_mem_cons.mpr ⟨trivial, List.forall_mem_cons.mpr ⟨trivial, List.forall_mem_cons.mpr ⟨trivial, List.forall_mem_cons.mpr ⟨trivial, List.forall_mem_cons.mpr ⟨trivial, fun _ h => absurd h List.not_mem_nil⟩⟩⟩⟩⟩⟩
set_option maxRecDepth 100000 in
theorem zq_25_3 : ∀ e ∈ zm_c25_3, zm_okq 25 e.2 := List.forall_mem_cons.mpr ⟨trivial, List.forall_mem_cons.mpr ⟨trivial, List.forall_mem_cons.mpr ⟨⟨_, _, _, rfl, by decide, zm_f1.1, zm_f1.2.1, zm_f1.2.2, Or.inl ⟨_, zw_45, Or.inl rfl⟩⟩, List.forall_mem_cons.mpr ⟨trivial, List.forall_mem_cons.mpr ⟨⟨_, _, _, rfl, by decide, zm_f1.1, zm_f1.2.1, zm_f1.2.2, Or.inl ⟨_, zw_49, Or.inl rfl⟩⟩, List.forall_mem_cons.mpr ⟨trivial, fun _ h => absurd h List.not_mem_nil⟩⟩⟩⟩⟩⟩
set_option maxRecDepth 100000 in
theorem zq_25_4 : ∀ e ∈ zm_c25_4, zm_okq 25 e.2 := List.forall_mem_cons.mpr ⟨trivial, List.forall_mem_cons.mpr ⟨trivial, List.forall_mem_cons.mpr ⟨trivial, List.forall_mem_cons.mpr ⟨trivial, List.forall_mem_cons.mpr ⟨trivial, List.forall_mem_cons.mpr ⟨trivial, fun _ h => absurd h List.not_mem_nil⟩⟩⟩⟩⟩⟩
set_option maxRecDepth 100000 in
theorem zq_25_5 : ∀ e ∈ zm_c25_5, zm_okq 25 e.2 := List.forall_mem_cons.mpr ⟨⟨_, _, _, rfl, by decide, zm_f1.1, zm_f1.2.1, zm_f1.2.2, Or.inl ⟨_, zw_49, Or.inl rfl⟩⟩, List.forall_mem_cons.mpr ⟨trivial, List.forall_mem_cons.mpr ⟨trivial, List.forall_mem_cons.mpr ⟨⟨⟨_, _, _, rfl, by decide, zm_f1.1, zm_f1.2.1, zm_f1.2.2, Or.inl ⟨_, zw_49, Or.inl rfl⟩⟩, zm_okw_n rfl rfl⟩, List.forall_mem_cons.mpr ⟨trivial, List.forall_mem_cons.mpr ⟨trivial, fun _ h => absurd h List.not_mem_nil⟩⟩⟩⟩⟩⟩
set_option maxRecDepth 100000 in
theorem zq_25_6 : ∀ e ∈ zm_c25_6, zm_okq 25 e.2 := List.forall_mem_cons.mpr ⟨⟨_, _, _, rfl, by decide, zm_f1.1, zm_f1.2.1, zm_f1.2.2, Or.inl ⟨_, zw_50, Or.inl rfl⟩⟩, List.forall_mem_cons.mpr ⟨trivial, List.forall_mem_cons.mpr ⟨trivial, List.forall_mem_cons.mpr ⟨trivial, List.forall_mem_cons.mpr ⟨trivial, List.forall_mem_cons.mpr ⟨⟨⟨_, _, _, rfl, by decide, zm_f1.1, zm_f1.2.1, zm_f1.2.2, Or.inl ⟨_, zw_50, Or.inl rfl⟩⟩, zm_okw_n rfl rfl⟩, fun _ h => absurd h List.not_mem_nil⟩⟩⟩⟩⟩⟩
set_option maxRecDepth 100000 in
theorem zq_25_7 : ∀ e ∈ zm_c25_7, zm_okq 25 e.2 := List.forall_mem_cons.mpr ⟨trivial, List.forall_mem_cons.mpr ⟨trivial, List.forall_mem_cons.mpr ⟨trivial, List.forall_mem_cons.mpr ⟨trivial, List.forall_mem_cons.mpr ⟨trivial, List.forall_mem_cons.mpr ⟨trivial, fun _ h => absurd h List.not_mem_nil⟩⟩⟩⟩⟩⟩
set_option maxRecDepth 100000 in
theorem zq_25_8 : ∀ e ∈ zm_c25_8, zm_okq 25 e.2 := List.forall_mem_cons.mpr ⟨trivial, List.forall_mem_cons.mpr ⟨trivial, List.forall_mem_cons.mpr ⟨trivial, List.forall_mem_cons.mpr ⟨trivial, List.forall_mem_cons.mpr ⟨trivial, List.forall_mem_cons.mpr ⟨trivial, fun _ h => absurd h List.not_mem_nil⟩⟩⟩⟩⟩⟩
set_option maxRecDepth 100000 in
theorem zq_25_9 : ∀ e ∈ zm_c25_9, zm_okq 25 e.2 := List.forall_mem_cons.mpr ⟨trivial, List.forall_mem_cons.mpr ⟨trivial, List.forall_mem_cons.mpr ⟨trivial, List.forall_mem_cons.mpr ⟨trivial, List.forall_mem_cons.mpr ⟨trivial, List.forall_mem_cons.mpr ⟨trivial, fun _ h => absurd h List.not_mem_nil⟩⟩⟩⟩⟩⟩
set_option maxRecDepth 100000 in
theorem zq_25_10 : ∀ e ∈ zm_c25_10, zm_okq 25 e.2 := List.forall_mem_cons.mpr ⟨trivial, List.forall_mem_cons.mpr ⟨trivial, List.forall_mem_cons.mpr ⟨trivial, List.forall_mem_cons.mpr ⟨trivial, List.forall_mem_cons.mpr ⟨trivial, List.forall_mem_cons.mpr ⟨trivial, fun _ h => absurd h List.not_mem_nil⟩⟩⟩⟩⟩⟩
set_option maxRecDepth 100000 in
theorem zq_25_11 : ∀ e ∈ zm_c25_11, zm_okq 25 e.2 := List.forall_mem_cons.mpr ⟨trivial, List.forall_mem_cons.mpr ⟨trivial, List.forall_mem_cons.mpr ⟨trivial, List.forall_mem_cons.mpr ⟨trivial, List.forall_mem_cons.mpr ⟨trivial, List.forall_mem_cons.mpr ⟨trivial, fun _ h => absurd h List.not_mem_nil⟩⟩⟩⟩⟩⟩
set_option maxRecDepth 100000 in
theorem zq_25_12 : ∀ e ∈ zm_c25_12, zm_okq 25 e.2 := List.forall_mem_cons.mpr ⟨trivial, List.forall_mem_cons.mpr ⟨trivial, List.forall_mem_cons.mpr ⟨trivial, List.forall_mem_cons.mpr ⟨trivial, List.forall_mem_cons.mpr ⟨⟨_, _, _, rfl, rfl, zm_f7.1, zm_f7.2.1, zw_354, zw_355, zw_15⟩, List.forall_mem_cons.mpr ⟨trivial, fun _ h => absurd h List.not_mem_nil⟩⟩⟩⟩⟩⟩
set_option maxRecDepth 100000 in
theorem zq_25_13 : ∀ e ∈ zm_c25_13, zm_okq 25 e.2 := List.forall_mem_cons.mpr ⟨trivial, List.forall_mem_cons.mpr ⟨trivial, List.forall_mem_cons.mpr ⟨trivial, List.forall_mem_cons.mpr ⟨trivial, List.forall_mem_cons.mpr ⟨trivial, List.forall_mem_cons.mpr ⟨trivial, fun _ h => absurd h List.not_mem_nil⟩⟩⟩⟩⟩⟩
set_option maxRecDepth 100000 in
theorem zq_25_14 : ∀ e ∈ zm_c25_14, zm_okq 25 e.2 := List.forall_mem_cons.mpr ⟨trivial, fun _ h => absurd h List.not_mem_nil⟩
set_option maxRecDepth 100000 in
theorem zq_26_0 : ∀ e ∈ zm_c26_0, zm_okq 26 e.2 := List.forall_mem_cons.mpr ⟨trivial, List.forall_mem_cons.mpr ⟨trivial, List.forall_mem_cons.mpr ⟨trivial, List.forall_mem_cons.mpr ⟨trivial, List.forall_mem_cons.mpr ⟨trivial, List.forall_mem_cons.mpr ⟨trivial, fun _ h => absurd h List.not_mem_nil⟩⟩⟩⟩⟩⟩
set_option maxRecDepth 100000 in
theorem zq_26_1 : ∀ e ∈ zm_c26_1, zm_okq 26 e.2 := List.forall_mem_cons.mpr ⟨trivial, List.forall_mem_cons.mpr ⟨trivial, List.forall_mem_cons.mpr ⟨trivial, List.forall_mem_cons.mpr ⟨trivial, List.forall_mem_cons.mpr ⟨trivial, List.forall_mem_cons.mpr ⟨trivial, fun _ h => absurd h List.not_mem_nil⟩⟩⟩⟩⟩⟩
set_option maxRecDepth 100000 in
theorem zq_26_2 : ∀ e ∈ zm_c26_2, zm_okq 26 e.2 := List.forall_mem_cons.mpr ⟨trivial, List.forall_mem_cons.mpr ⟨⟨_, _, _, rfl, by decide, zm_f1.1, zm_f1.2.1, zm_f1.2.2, Or.inl ⟨_, zw_49, Or.inl rfl⟩⟩, List.forall_mem_cons.mpr ⟨trivial, List.forall_mem_cons.mpr ⟨⟨_, _, _, rfl, by decide, zm_f1.1, zm_f1.2.1, zm_f1.2.2, Or.inl ⟨_, zw_50, Or.inl rfl⟩⟩, List.forall_mem_cons.mpr ⟨trivial, List.forall_mem_cons.mpr ⟨trivial, fun _ h => absurd h List.not_mem_nil⟩⟩⟩⟩⟩⟩
set_option maxRecDepth 100000 in
theorem zq_26_3 : ∀ e ∈ zm_c26_3, zm_okq 26 e.2 := List.forall_mem_cons.mpr ⟨trivial, List.forall_mem_cons.mpr ⟨trivial, List.forall_mem_cons.mpr ⟨trivial, List.forall_mem_cons.mpr ⟨trivial, List.forall_mem_cons.mpr ⟨trivial, List.forall_mem_cons.mpr ⟨trivial, fun _ h => absurd h List.not_mem_nil⟩⟩⟩⟩⟩⟩
set_option maxRecDepth 100000 in
theorem zq_26_4 : ∀ e ∈ zm_c26_4, zm_okq 26 e.2 := List.forall_mem_cons.mpr ⟨trivial, fun _ h => absurd h List.not_mem_nil⟩
set_option maxRecDepth 100000 in
theorem zq_27_0 : ∀ e ∈ zm_c27_0, zm_okq 27 e.2 := List.forall_mem_cons.mpr ⟨trivial, List.forall_mem_cons.mpr ⟨trivial, List.forall_mem_cons.mpr ⟨trivial, List.forall_mem_cons.mpr ⟨trivial, List.forall_mem_cons.mpr ⟨trivial, List.forall_mem_cons.mpr ⟨trivial, fun _ h => absurd h List.not_mem_nil⟩⟩⟩⟩⟩⟩
set_option maxRecDepth 100000 in
theorem zq_27_1 : ∀ e ∈ zm_c27_1, zm_okq 27 e.2 := List.forall_mem_cons.mpr ⟨trivial, List.forall_mem_cons.mpr ⟨trivial, List.forall_mem_cons.mpr ⟨trivial, List.forall_mem_cons.mpr ⟨trivial, fun _ h => absurd h List.not_mem_nil⟩⟩⟩⟩
set_option maxRecDepth 100000 in
theorem zq_28_0 : ∀ e ∈ zm_c28_0, zm_okq 28 e.2 := List.forall_mem_cons.mpr ⟨trivial, List.forall_mem_cons.mpr ⟨trivial, List.forall_mem_cons.mpr ⟨trivial, List.forall_mem_cons.mpr ⟨trivial, List.forall_mem_cons.mpr ⟨trivial, List.forall_mem_cons.mpr ⟨trivial, fun _ h => absurd h List.not_mem_nil⟩⟩⟩⟩⟩⟩
set_option maxRecDepth 100000 in
theorem zq_28_1 : ∀ e ∈ zm_c28_1, zm_okq 28 e.2 := List.forall_mem_cons.mpr ⟨trivial, List.forall_mem_cons.mpr ⟨trivial, List.forall_mem_cons.mpr ⟨trivial, List.forall_mem_cons.mpr ⟨trivial, List.forall_mem_cons.mpr ⟨trivial, List.forall_mem_cons.mpr ⟨trivial, fun _ h => absurd h List.not_mem_nil⟩⟩⟩⟩⟩⟩
set_option maxRecDepth 100000 in
theorem zq_28_2 : ∀ e ∈ zm_c28_2, zm_okq 28 e.2 := List.forall_mem_cons.mpr ⟨trivial, List.forall_mem_cons.mpr ⟨trivial, List.forall_mem_cons.mpr ⟨trivial, List.forall_mem_cons.mpr ⟨trivial, List.forall_mem_cons.mpr ⟨trivial, fun _ h => absurd h List.not_mem_nil⟩⟩⟩⟩⟩
set_option maxRecDepth 100000 in
theorem zq_29_0 : ∀ e ∈ zm_c29_0, zm_okq 29 e.2 := List.forall_mem_cons.mpr ⟨trivial, List.forall_mem_cons.mpr ⟨trivial, List.forall_mem_cons.mpr ⟨trivial, List.forall_mem_cons.mpr ⟨trivial, List.forall_mem_cons.mpr ⟨trivial, List.forall_mem_cons.mpr ⟨trivial, fun _ h => absurd h List.not_mem_nil⟩⟩⟩⟩⟩⟩
set_option maxRecDepth 100000 in
theorem zq_29_1 : ∀ e ∈ zm_c29_1, zm_okq 29 e.2 := List.forall_mem_cons.mpr ⟨trivial, List.forall_mem_cons.mpr ⟨trivial, List.forall_mem_cons.mpr ⟨trivial, List.forall_mem_cons.mpr ⟨trivial, fun _ h => absurd h List.not_mem_nil⟩⟩⟩⟩
set_option maxRecDepth 100000 in
theorem zq_30_0 : ∀ e ∈ zm_c30_0, zm_okq 30 e.2 := List.forall_mem_cons.mpr ⟨trivial, List.forall_mem_cons.mpr ⟨trivial, List.forall_mem_cons.mpr ⟨trivial, List.forall_mem_cons.mpr ⟨⟨_, _, _, rfl, rfl, zm_f7.1, zm_f7.2.1, zw_354, zw_355, zw_15⟩, List.forall_mem_cons.mpr ⟨trivial, List.forall_mem_cons.mpr ⟨trivial, fun _ h => absurd h List.not_mem_nil⟩⟩⟩⟩⟩⟩
set_option maxRecDepth 100000 in
theorem zq_30_1 : ∀ e ∈ zm_c30_1, zm_okq 30 e.2 := List.forall_mem_cons.mpr ⟨trivial, List.forall_mem_cons.mpr ⟨trivial, List.forall_mem_cons.mpr ⟨trivial, List.forall_mem_cons.mpr ⟨trivial, List.forall_mem_cons.mpr ⟨trivial, List.forall_mem_cons.mpr ⟨trivial, fun _ h => absurd h List.not_mem_nil⟩⟩⟩⟩⟩⟩
set_option maxRecDepth 100000 in
theorem zq_30_2 : ∀ e ∈ zm_c30_2, zm_okq 30 e.2 := List.forall_mem_cons.mpr ⟨trivial, List.forall_mem_cons.mpr ⟨trivial, List.forall_mem_cons.mpr ⟨trivial, List.forall_mem_cons.mpr ⟨trivial, List.forall_mem_cons.mpr ⟨trivial, List.forall_mem_cons.mpr ⟨⟨_, _, _, rfl, rfl, zm_f7.1, zm_f7.2.1, zw_354, zw_355, zw_15⟩, fun _ h => absurd h List.not_mem_nil⟩⟩⟩⟩⟩⟩
set_option maxRecDepth 100000 in
theorem zq_30_3 : ∀ e ∈ zm_c30_3, zm_okq 30 e.2 := List.forall_mem_cons.mpr ⟨trivial, List.forall_mem_cons.mpr ⟨trivial, List.forall_mem_cons.mpr ⟨trivial, List.forall_mem_cons.mpr ⟨trivial, List.forall_mem_cons.mpr ⟨trivial, List.forall_mem_cons.mpr ⟨trivial, fun _ h => absurd h List.not_mem_nil⟩⟩⟩⟩⟩⟩
set_option maxRecDepth 100000 in
theorem zq_30_4 : ∀ e ∈ zm_c30_4, zm_okq 30 e.2 := List.forall_mem_cons.mpr ⟨trivial, List.forall_mem_cons.mpr ⟨trivial, List.forall_mem_cons.mpr ⟨trivial, List.forall_mem_cons.mpr ⟨trivial, List.forall_mem_cons.mpr ⟨trivial, List.forall_mem_cons.mpr ⟨trivial, fun _ h => absurd h List.not_mem_nil⟩⟩⟩⟩⟩⟩
set_option maxRecDepth 100000 in
theorem zq_30_5 : ∀ e ∈ zm_c30_5, zm_okq 30 e.2 := List.forall_mem_cons.mpr ⟨trivial, List.forall_mem_cons.mpr ⟨trivial, List.forall_mem_cons.mpr ⟨trivial, List.forall_mem_cons.mpr ⟨trivial, List.forall_mem_cons.mpr ⟨⟨_, _, _, rfl, rfl, zm_f7.1, zm_f7.2.1, zw_354, zw_355, zw_15⟩, List.forall_mem_cons.mpr ⟨trivial, fun _ h => absurd h List.not_mem_nil⟩⟩⟩⟩⟩⟩
set_option maxRecDepth 100000 in
theorem zq_30_6 : ∀ e ∈ zm_c30_6, zm_okq 30 e.2 := List.forall_mem_cons.mpr ⟨trivial, List.forall_mem_cons.mpr ⟨trivial, List.forall_mem_cons.mpr ⟨trivial, List.forall_mem_cons.mpr ⟨trivial, List.forall_mem_cons.mpr ⟨trivial, List.forall_mem_cons.mpr ⟨trivial, fun _ h => absurd h List.not_mem_nil⟩⟩⟩⟩⟩⟩
set_option maxRecDepth 100000 in
theorem zq_30_7 : ∀ e ∈ zm_c30_7, zm_okq 30 e.2 := List.forall_mem_cons.mpr ⟨trivial, List.forall_mem_cons.mpr ⟨⟨_, _, _, rfl, rfl, zm_f7.1, zm_f7.2.1, zw_354, zw_355, zw_15⟩, List.forall_mem_cons.mpr ⟨trivial, List.forall_mem_cons.mpr ⟨trivial, List.forall_mem_cons.mpr ⟨trivial, List.forall_mem_cons.mpr ⟨trivial, fun _ h => absurd h List.not_mem_nil⟩⟩⟩⟩⟩⟩
set_option maxRecDepth 100000 in
theorem zq_30_8 : ∀ e ∈ zm_c30_8, zm_okq 30 e.2 := List.forall_mem_cons.mpr ⟨trivial, List.forall_mem_cons.mpr ⟨trivial, List.forall_mem_cons.mpr ⟨trivial, List.forall_mem_cons.mpr ⟨trivial, fun _ h => absurd h List.not_mem_nil⟩⟩⟩⟩
set_option maxRecDepth 100000 in
theorem zq_31_0 : ∀ e ∈ zm_c31_0, zm_okq 31 e.2 := List.forall_mem_cons.mpr ⟨trivial, List.forall_mem_cons.mpr ⟨trivial, List.forall_mem_cons.mpr ⟨trivial, List.forall_mem_cons.mpr ⟨trivial, List.forall_mem_cons.mpr ⟨⟨⟨_, _, _, rfl, by decide, zm_f7.1, zm_f7.2.1, zm_f7.2.2, Or.inl ⟨_, zw_360, Or.inl rfl⟩⟩, zm_okw_f rfl rfl rfl zw_360⟩, List.forall_mem_cons.mpr ⟨trivial, fun _ h => absurd h List.not_mem_nil⟩⟩⟩⟩⟩⟩
set_option maxRecDepth 100000 in
theorem zq_31_1 : ∀ e ∈ zm_c31_1, zm_okq 31 e.2 := List.forall_mem_cons.mpr ⟨trivial, List.forall_mem_cons.mpr ⟨⟨⟨_, _, _, rfl, by decide, zm_f7.1, zm_f7.2.1, zm_f7.2.2, Or.inl ⟨_, zw_362, Or.inl rfl⟩⟩, zm_okw_f rfl rfl rfl zw_362⟩, List.forall_mem_cons.mpr ⟨trivial, List.forall_mem_cons.mpr ⟨trivial, List.forall_mem_cons.mpr ⟨⟨⟨_, _, _, rfl, by decide, zm_f7.1, zm_f7.2.1, zm_f7.2.2, Or.inl ⟨_, zw_364, Or.inl rfl⟩⟩, zm_okw_f rfl rfl rfl zw_364⟩, List.forall_mem_cons.mpr ⟨trivial, fun _ h => absurd h List.not_mem_nil⟩⟩⟩⟩⟩⟩
set_option maxRecDepth 100000 in
theorem zq_31_2 : ∀ e ∈ zm_c31_2, zm_okq 31 e.2 := List.forall_mem_cons.mpr ⟨trivial, List.forall_mem_cons.mpr ⟨⟨⟨_, _, _, rfl, by decide, zm_f7.1, zm_f7.2.1, zm_f7.2.2, Or.inl ⟨_, zw_366, Or.inl rfl⟩⟩, zm_okw_f rfl rfl rfl zw_366⟩, List.forall_mem_cons.mpr ⟨trivial, List.forall_mem_cons.mpr ⟨trivial, List.forall_mem_cons.mpr ⟨⟨⟨_, _, _, rfl, by decide, zm_f7.1, zm_f7.2.1, zm_f7.2.2, Or.inl ⟨_, zw_368, Or.inl rfl⟩⟩, zm_okw_f rfl rfl rfl zw_368⟩, List.forall_mem_cons.mpr ⟨trivial, fun _ h => absurd h List.not_mem_nil⟩⟩⟩⟩⟩⟩
set_option maxRecDepth 100000 in
theorem zq_32_0 : ∀ e ∈ zm_c32_0, zm_okq 32 e.2 := List.forall_mem_cons.mpr ⟨trivial, List.forall_mem_cons.mpr ⟨trivial, List.forall_mem_cons.mpr ⟨trivial, List.forall_mem_cons.mpr ⟨trivial, List.forall_mem_cons.mpr ⟨⟨⟨_, _, _, rfl, by decide, zm_f6.1, zm_f6.2.1, zm_f6.2.2, Or.inl ⟨_, zw_385, Or.inl rfl⟩⟩, zm_okw_f rfl rfl rfl zw_385⟩, List.forall_mem_cons.mpr ⟨trivial, fun _ h => absurd h List.not_mem_nil⟩⟩⟩⟩⟩⟩
set_option maxRecDepth 100000 in
theorem zq_32_1 : ∀ e ∈ zm_c32_1, zm_okq 32 e.2 := List.forall_mem_cons.mpr ⟨trivial, List.forall_mem_cons.mpr ⟨⟨⟨_, _, _, rfl, by decide, zm_f6.1, zm_f6.2.1, zm_f6.2.2, Or.inl ⟨_, zw_387, Or.inl rfl⟩⟩, zm_okw_f rfl rfl rfl zw_387⟩, List.forall_mem_cons.mpr ⟨trivial, List.forall_mem_cons.mpr ⟨trivial, List.forall_mem_cons.mpr ⟨⟨⟨_, _, _, rfl, by decide, zm_f6.1, zm_f6.2.1, zm_f6.2.2, Or.inl ⟨_, zw_389, Or.inl rfl⟩⟩, zm_okw_f rfl rfl rfl zw_389⟩, List.forall_mem_cons.mpr ⟨trivial, fun _ h => absurd h List.not_mem_nil⟩⟩⟩⟩⟩⟩
set_option maxRecDepth 100000 in
theorem zq_33_0 : ∀ e ∈ zm_c33_0, zm_okq 33 e.2 := List.forall_mem_cons.mpr ⟨trivial, List.forall_mem_cons.mpr ⟨trivial, List.forall_mem_cons.mpr ⟨trivial, List.forall_mem_cons.mpr ⟨trivial, List.forall_mem_cons.mpr ⟨trivial, List.forall_mem_cons.mpr ⟨trivial, fun _ h => absurd h List.not_mem_nil⟩⟩⟩⟩⟩⟩
set_option maxRecDepth 100000 in
theorem zq_33_1 : ∀ e ∈ zm_c33_1, zm_okq 33 e.2 := List.forall_mem_cons.mpr ⟨trivial, List.forall_mem_cons.mpr ⟨trivial, List.forall_mem_cons.mpr ⟨trivial, List.forall_mem_cons.mpr ⟨trivial, List.forall_mem_cons.mpr ⟨trivial, List.forall_mem_cons.mpr ⟨trivial, fun _ h => absurd h List.not_mem_nil⟩⟩⟩⟩⟩⟩
set_option maxRecDepth 100000 in
theorem zq_33_2 : ∀ e ∈ zm_c33_2, zm_okq 33 e.2 := List.forall_mem_cons.mpr ⟨trivial, List.forall_mem_cons.mpr ⟨trivial, List.forall_mem_cons.mpr ⟨trivial, List.forall_mem_cons.mpr ⟨trivial, List.forall_mem_cons.mpr ⟨trivial, List.forall_mem_cons.mpr ⟨trivial, fun _ h => absurd h List.not_mem_nil⟩⟩⟩⟩⟩⟩
set_option maxRecDepth 100000 in
theorem zq_33_3 : ∀ e ∈ zm_c33_3, zm_okq 33 e.2 := List.forall_mem_cons.mpr ⟨trivial, List.forall_mem_cons.mpr ⟨trivial, List.forall_mem_cons.mpr ⟨trivial, List.forall_mem_cons.mpr ⟨trivial, List.forall_mem_cons.mpr ⟨trivial, List.forall_mem_cons.mpr ⟨trivial, fun _ h => absurd h List.not_mem_nil⟩⟩⟩⟩⟩⟩
set_option maxRecDepth 100000 in
theorem zq_34_0 : ∀ e ∈ zm_c34_0, zm_okq 34 e.2 := List.forall_mem_cons.mpr ⟨trivial, List.forall_mem_cons.mpr ⟨⟨_, _, _, rfl, by decide, zm_f0.1, zm_f0.2.1, zm_f0.2.2, Or.inl ⟨_, zw_153, Or.inl rfl⟩⟩, List.forall_mem_cons.mpr ⟨trivial, List.forall_mem_cons.mpr ⟨trivial, List.forall_mem_cons.mpr ⟨trivial, List.forall_mem_cons.mpr ⟨trivial, fun _ h => absurd h List.not_mem_nil⟩⟩⟩⟩⟩⟩
set_option maxRecDepth 100000 in
theorem zq_34_1 : ∀ e ∈ zm_c34_1, zm_okq 34 e.2 := List.forall_mem_cons.mpr ⟨⟨⟨_, _, _, rfl, by decide, zm_f0.1, zm_f0.2.1, zm_f0.2.2, Or.inl ⟨_, zw_156, Or.inl rfl⟩⟩, zm_okw_n rfl rfl⟩, List.forall_mem_cons.mpr ⟨trivial, List.forall_mem_cons.mpr ⟨⟨_, _, _, rfl, by decide, zm_f0.1, zm_f0.2.1, zm_f0.2.2, Or.inl ⟨_, zw_154, Or.inl rfl⟩⟩, List.forall_mem_cons.mpr ⟨trivial, List.forall_mem_cons.mpr ⟨trivial, List.forall_mem_cons.mpr ⟨trivial, fun _ h => absurd h List.not_mem_nil⟩⟩⟩⟩⟩⟩
set_option maxRecDepth 100000 in
theorem zq_34_2 : ∀ e ∈ zm_c34_2, zm_okq 34 e.2 := List.forall_mem_cons.mpr ⟨⟨⟨_, _, _, rfl, by decide, zm_f0.1, zm_f0.2.1, zm_f0.2.2, Or.inl ⟨_, zw_157, Or.inl rfl⟩⟩, zm_okw_n rfl rfl⟩, List.forall_mem_cons.mpr ⟨trivial, List.forall_mem_cons.mpr ⟨trivial, List.forall_mem_cons.mpr ⟨⟨⟨_, _, _, rfl, by decide, zm_f0.1, zm_f0.2.1, zm_f0.2.2, Or.inl ⟨_, zw_161, Or.inl rfl⟩⟩, zm_okw_n rfl rfl⟩, List.forall_mem_cons.mpr ⟨trivial, List.forall_mem_cons.mpr ⟨trivial, fun _ h => absurd h List.not_mem_nil⟩⟩⟩⟩⟩⟩
set_option maxRecDepth 100000 in
theorem zq_34_3 : ∀ e ∈ zm_c34_3, zm_okq 34 e.2 := List.forall_mem_cons.mpr ⟨trivial, List.forall_mem_cons.mpr ⟨trivial, List.forall_mem_cons.mpr ⟨trivial, List.forall_mem_cons.mpr ⟨trivial, List.forall_mem_cons.mpr ⟨⟨⟨_, _, _, rfl, by decide, zm_f0.1, zm_f0.2.1, zm_f0.2.2, Or.inl ⟨_, zw_156, Or.inl rfl⟩⟩, zm_okw_n rfl rfl⟩, List.forall_mem_cons.mpr ⟨trivial, fun _ h => absurd h List.not_mem_nil⟩⟩⟩⟩⟩⟩
set_option maxRecDepth 100000 in
theorem zq_34_4 : ∀ e ∈ zm_c34_4, zm_okq 34 e.2 := List.forall_mem_cons.mpr ⟨⟨_, _, _, rfl, by decide, zm_f0.1, zm_f0.2.1, zm_f0.2.2, Or.inl ⟨_, zw_156, Or.inl rfl⟩⟩, List.forall_mem_cons.mpr ⟨⟨_, _, _, rfl, by decide, zm_f3.1, zm_f3.2.1, zm_f3.2.2, Or.inl ⟨_, zw_82, Or.inl rfl⟩⟩, List.forall_mem_cons.mpr ⟨trivial, fun _ h => absurd h List.not_mem_nil⟩⟩⟩
set_option maxRecDepth 100000 in
theorem zq_35_0 : ∀ e ∈ zm_c35_0, zm_okq 35 e.2 := List.forall_mem_cons.mpr ⟨trivial, List.forall_mem_cons.mpr ⟨trivial, List.forall_mem_cons.mpr ⟨trivial, List.forall_mem_cons.mpr ⟨trivial, List.forall_mem_cons.mpr ⟨trivial, fun _ h => absurd h List.not_mem_nil⟩⟩⟩⟩⟩
set_option maxRecDepth 100000 in
theorem zq_36_0 : ∀ e ∈ zm_c36_0, zm_okq 36 e.2 := List.forall_mem_cons.mpr ⟨trivial, List.forall_mem_cons.mpr ⟨trivial, List.forall_mem_cons.mpr ⟨⟨⟨_, _, _, rfl, by decide, zm_f2.1, zm_f2.2.1, zm_f2.2.2, Or.inl ⟨_, zw_133, Or.inl rfl⟩⟩, zm_okw_n rfl rfl⟩, List.forall_mem_cons.mpr ⟨trivial, List.forall_mem_cons.mpr ⟨trivial, List.forall_mem_cons.mpr ⟨⟨⟨_, _, _, rfl, by decide, zm_f2.1, zm_f2.2.1, zm_f2.2.2, Or.inl ⟨_, zw_134, Or.inl rfl⟩⟩, zm_okw_n rfl rfl⟩, fun _ h => absurd h List.not_mem_nil⟩⟩⟩⟩⟩⟩
set_option maxRecDepth 100000 in
theorem zq_36_1 : ∀ e ∈ zm_c36_1, zm_okq 36 e.2 := List.forall_mem_cons.mpr ⟨trivial, List.forall_mem_cons.mpr ⟨trivial, List.forall_mem_cons.mpr ⟨⟨⟨_, _, _, rfl, by decide, zm_f2.1, zm_f2.2.1, zm_f2.2.2, Or.inl ⟨_, zw_135, Or.inl rfl⟩⟩, zm_okw_n rfl rfl⟩, List.forall_mem_cons.mpr ⟨trivial, fun _ h => absurd h List.not_mem_nil⟩⟩⟩⟩
set_option maxRecDepth 100000 in
theorem zq_37_0 : ∀ e ∈ zm_c37_0, zm_okq 37 e.2 := List.forall_mem_cons.mpr ⟨trivial, List.forall_mem_cons.mpr ⟨trivial, List.forall_mem_cons.mpr ⟨trivial, List.forall_mem_cons.mpr ⟨trivial, List.forall_mem_cons.mpr ⟨trivial, List.forall_mem_cons.mpr ⟨⟨_, _, _, rfl, by decide, zm_f0.1, zm_f0.2.1, zm_f0.2.2, Or.inl ⟨_, zw_161, Or.inl rfl⟩⟩, fun _ h => absurd h List.not_mem_nil⟩⟩⟩⟩⟩⟩
set_option maxRecDepth 100000 in
theorem zq_37_1 : ∀ e ∈ zm_c37_1, zm_okq 37 e.2 := List.forall_mem_cons.mpr ⟨trivial, List.forall_mem_cons.mpr ⟨trivial, List.forall_mem_cons.mpr ⟨⟨⟨_, _, _, rfl, by decide, zm_f0.1, zm_f0.2.1, zm_f0.2.2, Or.inl ⟨_, zw_161, Or.inl rfl⟩⟩, zm_okw_n rfl rfl⟩, List.forall_mem_cons.mpr ⟨trivial, List.forall_mem_cons.mpr ⟨⟨_, _, _, rfl, by decide, zm_f7.1, zm_f7.2.1, zm_f7.2.2, Or.inl ⟨_, zw_361, Or.inl rfl⟩⟩, List.forall_mem_cons.mpr ⟨trivial, fun _ h => absurd h List.not_mem_nil⟩⟩⟩⟩⟩⟩
set_option maxRecDepth 100000 in
theorem zq_37_2 : ∀ e ∈ zm_c37_2, zm_okq 37 e.2 := List.forall_mem_cons.mpr ⟨trivial, List.forall_mem_cons.mpr ⟨⟨_, _, _, rfl, by decide, zm_f0.1, zm_f0.2.1, zm_f0.2.2, Or.inl ⟨_, zw_154, Or.inl rfl⟩⟩, List.forall_mem_cons.mpr ⟨trivial, List.forall_mem_cons.mpr ⟨⟨_, _, _, rfl, by decide, zm_f7.1, zm_f7.2.1, zm_f7.2.2, Or.inl ⟨_, zw_363, Or.inl rfl⟩⟩, List.forall_mem_cons.mpr ⟨trivial, List.forall_mem_cons.mpr ⟨trivial, fun _ h => absurd h List.not_mem_nil⟩⟩⟩⟩⟩⟩
set_option maxRecDepth 100000 in
theorem zq_37_3 : ∀ e ∈ zm_c37_3, zm_okq 37 e.2 := List.forall_mem_cons.mpr ⟨trivial, List.forall_mem_cons.mpr ⟨⟨_, _, _, rfl, by decide, zm_f0.1, zm_f0.2.1, zm_f0.2.2, Or.inl ⟨_, zw_154, Or.inl rfl⟩⟩, List.forall_mem_cons.mpr ⟨⟨_, _, _, rfl, by decide, zm_f2.1, zm_f2.2.1, zm_f2.2.2, Or.inl ⟨_, zw_129, Or.inl rfl⟩⟩, List.forall_mem_cons.mpr ⟨trivial, List.forall_mem_cons.mpr ⟨trivial, List.forall_mem_cons.mpr ⟨trivial, fun _ h => absurd h List.not_mem_nil⟩⟩⟩⟩⟩⟩
set_option maxRecDepth 100000 in
theorem zq_37_4 : ∀ e ∈ zm_c37_4, zm_okq 37 e.2 := List.forall_mem_cons.mpr ⟨trivial, List.forall_mem_cons.mpr ⟨⟨_, _, _, rfl, by decide, zm_f7.1, zm_f7.2.1, zm_f7.2.2, Or.inl ⟨_, zw_363, Or.inl rfl⟩⟩, List.forall_mem_cons.mpr ⟨trivial, List.forall_mem_cons.mpr ⟨trivial, List.forall_mem_cons.mpr ⟨trivial, List.forall_mem_cons.mpr ⟨trivial, fun _ h => absurd h List.not_mem_nil⟩⟩⟩⟩⟩⟩
set_option maxRecDepth 100000 in
theorem zq_37_5 : ∀ e ∈ zm_c37_5, zm_okq 37 e.2 := List.forall_mem_cons.mpr ⟨trivial, List.forall_mem_cons.mpr ⟨trivial, List.forall_mem_cons.mpr ⟨⟨_, _, _, rfl, by decide, zm_f7.1, zm_f7.2.1, zm_f7.2.2, Or.inl ⟨_, zw_363, Or.inl rfl⟩⟩, List.forall_mem_cons.mpr ⟨trivial, List.forall_mem_cons.mpr ⟨trivial, List.forall_mem_cons.mpr ⟨trivial, fun _ h => absurd h List.not_mem_nil⟩⟩⟩⟩⟩⟩
set_option maxRecDepth 100000 in
theorem zq_37_6 : ∀ e ∈ zm_c37_6, zm_okq 37 e.2 := List.forall_mem_cons.mpr ⟨trivial, List.forall_mem_cons.mpr ⟨⟨_, _, _, rfl, by decide, zm_f0.1, zm_f0.2.1, zm_f0.2.2, Or.inl ⟨_, zw_154, Or.inl rfl⟩⟩, List.forall_mem_cons.mpr ⟨trivial, List.forall_mem_cons.mpr ⟨trivial, List.forall_mem_cons.mpr ⟨⟨_, _, _, rfl, by decide, zm_f7.1, zm_f7.2.1, zm_f7.2.2, Or.inl ⟨_, zw_365, Or.inl rfl⟩⟩, List.forall_mem_cons.mpr ⟨trivial, fun _ h => absurd h List.not_mem_nil⟩⟩⟩⟩⟩⟩
set_option maxRecDepth 100000 in
theorem zq_37_7 : ∀ e ∈ zm_c37_7, zm_okq 37 e.2 := List.forall_mem_cons.mpr ⟨trivial, List.forall_mem_cons.mpr ⟨trivial, List.forall_mem_cons.mpr ⟨trivial, List.forall_mem_cons.mpr ⟨⟨_, _, _, rfl, by decide, zm_f7.1, zm_f7.2.1, zm_f7.2.2, Or.inl ⟨_, zw_367, Or.inl rfl⟩⟩, List.forall_mem_cons.mpr ⟨trivial, List.forall_mem_cons.mpr ⟨trivial, fun _ h => absurd h List.not_mem_nil⟩⟩⟩⟩⟩⟩
set_option maxRecDepth 100000 in
theorem zq_37_8 : ∀ e ∈ zm_c37_8, zm_okq 37 e.2 := List.forall_mem_cons.mpr ⟨trivial, List.forall_mem_cons.mpr ⟨trivial, List.forall_mem_cons.mpr ⟨trivial, List.forall_mem_cons.mpr ⟨trivial, List.forall_mem_cons.mpr ⟨trivial, List.forall_mem_cons.mpr ⟨trivial, fun _ h => absurd h List.not_mem_nil⟩⟩⟩⟩⟩⟩
set_option maxRecDepth 100000 in
theorem zq_37_9 : ∀ e ∈ zm_c37_9, zm_okq 37 e.2 := List.forall_mem_cons.mpr ⟨trivial, List.forall_mem_cons.mpr ⟨trivial, List.forall_mem_cons.mpr ⟨trivial, List.forall_mem_cons.mpr ⟨trivial, List.forall_mem_cons.mpr ⟨trivial, List.forall_mem_cons.mpr ⟨⟨_, _, _, rfl, by decide, zm_f7.1, zm_f7.2.1, zm_f7.2.2, Or.inl ⟨_, zw_365, Or.inl rfl⟩⟩, fun _ h => absurd h List.not_mem_nil⟩⟩⟩⟩⟩⟩
set_option maxRecDepth 100000 in
theorem zq_37_10 : ∀ e ∈ zm_c37_10, zm_okq 37 e.2 := List.forall_mem_cons.mpr ⟨trivial, List.forall_mem_cons.mpr ⟨trivial, List.forall_mem_cons.mpr ⟨trivial, List.forall_mem_cons.mpr ⟨trivial, List.forall_mem_cons.mpr ⟨trivial, List.forall_mem_cons.mpr ⟨trivial, fun _ h => absurd h List.not_mem_nil⟩⟩⟩⟩⟩⟩
set_option maxRecDepth 100000 in
theorem zq_37_11 : ∀ e ∈ zm_c37_11, zm_okq 37 e.2 := List.forall_mem_cons.mpr ⟨⟨_, _, _, rfl, by decide, zm_f3.1, zm_f3.2.1, zm_f3.2.2, Or.inl ⟨_, zw_86, Or.inl rfl⟩⟩, List.forall_mem_cons.mpr ⟨trivial, List.forall_mem_cons.mpr ⟨trivial, List.forall_mem_cons.mpr ⟨trivial, List.forall_mem_cons.mpr ⟨trivial, List.forall_mem_cons.mpr ⟨trivial, fun _ h => absurd h List.not_mem_nil⟩⟩⟩⟩⟩⟩
set_option maxRecDepth 100000 in
theorem zq_37_12 : ∀ e ∈ zm_c37_12, zm_okq 37 e.2 := List.forall_mem_cons.mpr ⟨trivial, List.forall_mem_cons.mpr ⟨⟨_, _, _, rfl, by decide, zm_f7.1, zm_f7.2.1, zm_f7.2.2, Or.inl ⟨_, zw_365, Or.inl rfl⟩⟩, List.forall_mem_cons.mpr ⟨trivial, List.forall_mem_cons.mpr ⟨trivial, List.forall_mem_cons.mpr ⟨trivial, List.forall_mem_cons.mpr ⟨trivial, fun _ h => absurd h List.not_mem_nil⟩⟩⟩⟩⟩⟩
set_option maxRecDepth 100000 in
theorem zq_37_13 : ∀ e ∈ zm_c37_13, zm_okq 37 e.2 := List.forall_mem_cons.mpr ⟨trivial, List.forall_mem_cons.mpr ⟨trivial, List.forall_mem_cons.mpr ⟨⟨_, _, _, rfl, by decide, zm_f3.1, zm_f3.2.1, zm_f3.2.2, Or.inl ⟨_, zw_88, Or.inl rfl⟩⟩, List.forall_mem_cons.mpr ⟨trivial, List.forall_mem_cons.mpr ⟨trivial, List.forall_mem_cons.mpr ⟨trivial, fun _ h => absurd h List.not_mem_nil⟩⟩⟩⟩⟩⟩
set_option maxRecDepth 100000 in
theorem zq_37_14 : ∀ e ∈ zm_c37_14, zm_okq 37 e.2 := List.forall_mem_cons.mpr ⟨trivial, List.forall_mem_cons.mpr ⟨⟨_, _, _, rfl, by decide, zm_f0.1, zm_f0.2.1, zm_f0.2.2, Or.inl ⟨_, zw_154, Or.inl rfl⟩⟩, List.forall_mem_cons.mpr ⟨trivial, List.forall_mem_cons.mpr ⟨trivial, List.forall_mem_cons.mpr ⟨⟨_, _, _, rfl, by decide, zm_f7.1, zm_f7.2.1, zm_f7.2.2, Or.inl ⟨_, zw_365, Or.inl rfl⟩⟩, List.forall_mem_cons.mpr ⟨trivial, fun _ h => absurd h List.not_mem_nil⟩⟩⟩⟩⟩⟩
set_option maxRecDepth 100000 in
theorem zq_37_15 : ∀ e ∈ zm_c37_15, zm_okq 37 e.2 := List.forall_mem_cons.mpr ⟨trivial, List.forall_mem_cons.mpr ⟨trivial, List.forall_mem_cons.mpr ⟨trivial, List.forall_mem_cons.mpr ⟨trivial, List.forall_mem_cons.mpr ⟨trivial, List.forall_mem_cons.mpr ⟨trivial, fun _ h => absurd h List.not_mem_nil⟩⟩⟩⟩⟩⟩
set_option maxRecDepth 100000 in
theorem zq_37_16 : ∀ e ∈ zm_c37_16, zm_okq 37 e.2 := List.forall_mem_cons.mpr ⟨trivial, List.forall_mem_cons.mpr ⟨trivial, List.forall_mem_cons.mpr ⟨trivial, List.forall_mem_cons.mpr ⟨trivial, List.forall_mem_cons.mpr ⟨trivial, List.forall_mem_cons.mpr ⟨trivial, fun _ h => absurd h List.not_mem_nil⟩⟩⟩⟩⟩⟩
set_option maxRecDepth 100000 in
theorem zq_37_17 : ∀ e ∈ zm_c37_17, zm_okq 37 e.2 := List.forall_mem_cons.mpr ⟨trivial, List.forall_mem_cons.mpr ⟨trivial, List.forall_mem_cons.mpr ⟨trivial, List.forall_mem_cons.mpr ⟨trivial, List.forall_mem_cons.mpr ⟨trivial, List.forall_mem_cons.mpr ⟨trivial, fun _ h => absurd h List.not_mem_nil⟩⟩⟩⟩⟩⟩
set_option maxRecDepth 100000 in
theorem zq_37_18 : ∀ e ∈ zm_c37_18, zm_okq 37 e.2 := List.forall_mem_cons.mpr ⟨trivial, fun _ h => absurd h List.not_mem_nil⟩
set_option maxRecDepth 100000 in
theorem zq_38_0 : ∀ e ∈ zm_c38_0, zm_okq 38 e.2 := List.forall_mem_cons.mpr ⟨trivial, List.forall_mem_cons.mpr ⟨trivial, List.forall_mem_cons.mpr ⟨trivial, List.forall_mem_cons.mpr ⟨trivial, List.forall_mem_cons.mpr ⟨trivial, List.forall_mem_cons.mpr ⟨trivial, fun _ h => absurd h List.not_mem_nil⟩⟩⟩⟩⟩⟩
set_option maxRecDepth 100000 in
theorem zq_38_1 : ∀ e ∈ zm_c38_1, zm_okq 38 e.2 := List.forall_mem_cons.mpr ⟨⟨⟨_, _, _, rfl, by decide, zm_f3.1, zm_f3.2.1, zm_f3.2.2, Or.inl ⟨_, zw_83, Or.inl rfl⟩⟩, zm_okw_n rfl rfl⟩, List.forall_mem_cons.mpr ⟨trivial, List.forall_mem_cons.mpr ⟨trivial, fun _ h => absurd h List.not_mem_nil⟩⟩⟩
set_option maxRecDepth 100000 in
theorem zq_39_0 : ∀ e ∈ zm_c39_0, zm_okq 39 e.2 := List.forall_mem_cons.mpr ⟨trivial, List.forall_mem_cons.mpr ⟨⟨_, _, _, rfl, by decide, zm_f2.1, zm_f2.2.1, zm_f2.2.2, Or.inl ⟨_, zw_133, Or.inl rfl⟩⟩, List.forall_mem_cons.mpr ⟨trivial, List.forall_mem_cons.mpr ⟨⟨_, _, _, rfl, by decide, zm_f2.1, zm_f2.2.1, zm_f2.2.2, Or.inl ⟨_, zw_130, Or.inl rfl⟩⟩, List.forall_mem_cons.mpr ⟨trivial, List.forall_mem_cons.mpr ⟨trivial, fun _ h => absurd h List.not_mem_nil⟩⟩⟩⟩⟩⟩
set_option maxRecDepth 100000 in
theorem zq_39_1 : ∀ e ∈ zm_c39_1, zm_okq 39 e.2 := List.forall_mem_cons.mpr ⟨trivial, List.forall_mem_cons.mpr ⟨⟨_, _, _, rfl, by decide, zm_f2.1, zm_f2.2.1, zm_f2.2.2, Or.inl ⟨_, zw_130, Or.inl rfl⟩⟩, List.forall_mem_cons.mpr ⟨⟨_, _, _, rfl, rfl, zm_f3.1, zm_f3.2.1, zw_75, zw_76, zw_4⟩, List.forall_mem_cons.mpr ⟨trivial, List.forall_mem_cons.mpr ⟨trivial, List.forall_mem_cons.mpr ⟨trivial, fun _ h => absurd h List.not_mem_nil⟩⟩⟩⟩⟩⟩
set_option maxRecDepth 100000 in
theorem zq_39_2 : ∀ e ∈ zm_c39_2, zm_okq 39 e.2 := List.forall_mem_cons.mpr ⟨trivial, List.forall_mem_cons.mpr ⟨trivial, List.forall_mem_cons.mpr ⟨⟨_, _, _, rfl, by decide, zm_f2.1, zm_f2.2.1, zm_f2.2.2, Or.inl ⟨_, zw_130, Or.inl rfl⟩⟩, List.forall_mem_cons.mpr ⟨trivial, List.forall_mem_cons.mpr ⟨⟨_, _, _, rfl, by decide, zm_f2.1, zm_f2.2.1, zm_f2.2.2, Or.inl ⟨_, zw_133, Or.inl rfl⟩⟩, List.forall_mem_cons.mpr ⟨trivial, fun _ h => absurd h List.not_mem_nil⟩⟩⟩⟩⟩⟩
set_option maxRecDepth 100000 in
theorem zq_39_3 : ∀ e ∈ zm_c39_3, zm_okq 39 e.2 := List.forall_mem_cons.mpr ⟨⟨_, _, _, _, zw_75, rfl, Or.inl rfl⟩, List.forall_mem_cons.mpr ⟨trivial, List.forall_mem_cons.mpr ⟨trivial, List.forall_mem_cons.mpr ⟨trivial, List.forall_mem_cons.mpr ⟨⟨_, _, _, rfl, by decide, zm_f2.1, zm_f2.2.1, zm_f2.2.2, Or.inl ⟨_, zw_133, Or.inl rfl⟩⟩, List.forall_mem_cons.mpr ⟨trivial, fun _ h => absurd h List.not_mem_nil⟩⟩⟩⟩⟩⟩
set_option maxRecDepth 100000 in
theorem zq_39_4 : ∀ e ∈ zm_c39_4, zm_okq 39 e.2 := List.forall_mem_cons.mpr ⟨trivial, List.forall_mem_cons.mpr ⟨⟨⟨_, _, _, rfl, by decide, zm_f2.1, zm_f2.2.1, zm_f2.2.2, Or.inl ⟨_, zw_133, Or.inl rfl⟩⟩, zm_okw_n rfl rfl⟩, List.forall_mem_cons.mpr ⟨trivial, List.forall_mem_cons.mpr ⟨trivial, List.forall_mem_cons.mpr ⟨⟨⟨_, _, _, rfl, by decide, zm_f3.1, zm_f3.2.1, zm_f3.2.2, Or.inl ⟨_, zw_81, Or.inl rfl⟩⟩, zm_okw_n rfl rfl⟩, List.forall_mem_cons.mpr ⟨trivial, fun _ h => absurd h List.not_mem_nil⟩⟩⟩⟩⟩⟩
set_option maxRecDepth 100000 in
theorem zq_39_5 : ∀ e ∈ zm_c39_5, zm_okq 39 e.2 := List.forall_mem_cons.mpr ⟨trivial, fun _ h => absurd h List.not_mem_nil⟩
set_option maxRecDepth 100000 in
theorem zq_40_0 : ∀ e ∈ zm_c40_0, zm_okq 40 e.2 := List.forall_mem_cons.mpr ⟨trivial, List.forall_mem_cons.mpr ⟨trivial, List.forall_mem_cons.mpr ⟨trivial, List.forall_mem_cons.mpr ⟨trivial, List.forall_mem_cons.mpr ⟨trivial, List.forall_mem_cons.mpr ⟨⟨_, _, _, rfl, by decide, zm_f9.1, zm_f9.2.1, zm_f9.2.2, Or.inl ⟨_, zw_627, Or.inl rfl⟩⟩, fun _ h => absurd h List.not_mem_nil⟩⟩⟩⟩⟩⟩
set_option maxRecDepth 100000 in
theorem zq_40_1 : ∀ e ∈ zm_c40_1, zm_okq 40 e.2 := List.forall_mem_cons.mpr ⟨trivial, List.forall_mem_cons.mpr ⟨trivial, List.forall_mem_cons.mpr ⟨trivial, List.forall_mem_cons.mpr ⟨trivial, List.forall_mem_cons.mpr ⟨trivial, List.forall_mem_cons.mpr ⟨⟨_, _, _, rfl, by decide, zm_f9.1, zm_f9.2.1, zm_f9.2.2, Or.inl ⟨_, zw_625, Or.inl rfl⟩⟩, fun _ h => absurd h List.not_mem_nil⟩⟩⟩⟩⟩⟩
set_option maxRecDepth 100000 in
theorem zq_40_2 : ∀ e ∈ zm_c40_2, zm_okq 40 e.2 := List.forall_mem_cons.mpr ⟨trivial, List.forall_mem_cons.mpr ⟨trivial, List.forall_mem_cons.mpr ⟨⟨_, _, _, rfl, by decide, zm_f9.1, zm_f9.2.1, zm_f9.2.2, Or.inl ⟨_, zw_623, Or.inl rfl⟩⟩, List.forall_mem_cons.mpr ⟨trivial, List.forall_mem_cons.mpr ⟨trivial, fun _ h => absurd h List.not_mem_nil⟩⟩⟩⟩⟩
set_option maxRecDepth 100000 in
theorem zq_41_0 : ∀ e ∈ zm_c41_0, zm_okq 41 e.2 := List.forall_mem_cons.mpr ⟨trivial, List.forall_mem_cons.mpr ⟨⟨_, _, _, rfl, by decide, zm_f8.1, zm_f8.2.1, zm_f8.2.2, Or.inl ⟨_, zw_576, Or.inl rfl⟩⟩, List.forall_mem_cons.mpr ⟨trivial, List.forall_mem_cons.mpr ⟨trivial, List.forall_mem_cons.mpr ⟨trivial, List.forall_mem_cons.mpr ⟨⟨_, _, _, rfl, by decide, zm_f0.1, zm_f0.2.1, zm_f0.2.2, Or.inl ⟨_, zw_160, Or.inl rfl⟩⟩, fun _ h => absurd h List.not_mem_nil⟩⟩⟩⟩⟩⟩
set_option maxRecDepth 100000 in
theorem zq_41_1 : ∀ e ∈ zm_c41_1, zm_okq 41 e.2 := List.forall_mem_cons.mpr ⟨trivial, List.forall_mem_cons.mpr ⟨trivial, List.forall_mem_cons.mpr ⟨⟨⟨_, _, _, rfl, by decide, zm_f0.1, zm_f0.2.1, zm_f0.2.2, Or.inl ⟨_, zw_160, Or.inl rfl⟩⟩, zm_okw_n rfl rfl⟩, List.forall_mem_cons.mpr ⟨trivial, List.forall_mem_cons.mpr ⟨trivial, List.forall_mem_cons.mpr ⟨trivial, fun _ h => absurd h List.not_mem_nil⟩⟩⟩⟩⟩⟩
set_option maxRecDepth 100000 in
theorem zq_41_2 : ∀ e ∈ zm_c41_2, zm_okq 41 e.2 := List.forall_mem_cons.mpr ⟨trivial, List.forall_mem_cons.mpr ⟨trivial, List.forall_mem_cons.mpr ⟨⟨⟨_, _, _, rfl, by decide, zm_f8.1, zm_f8.2.1, zm_f8.2.2, Or.inl ⟨_, zw_576, Or.inl rfl⟩⟩, zm_okw_n rfl rfl⟩, List.forall_mem_cons.mpr ⟨trivial, List.forall_mem_cons.mpr ⟨trivial, List.forall_mem_cons.mpr ⟨⟨_, _, _, rfl, by decide, zm_f0.1, zm_f0.2.1, zm_f0.2.2, Or.inl ⟨_, zw_159, Or.inl rfl⟩⟩, fun _ h => absurd h List.not_mem_nil⟩⟩⟩⟩⟩⟩
set_option maxRecDepth 100000 in
theorem zq_41_3 : ∀ e ∈ zm_c41_3, zm_okq 41 e.2 := List.forall_mem_cons.mpr ⟨trivial, List.forall_mem_cons.mpr ⟨trivial, List.forall_mem_cons.mpr ⟨⟨⟨_, _, _, rfl, by decide, zm_f0.1, zm_f0.2.1, zm_f0.2.2, Or.inl ⟨_, zw_159, Or.inl rfl⟩⟩, zm_okw_n rfl rfl⟩, List.forall_mem_cons.mpr ⟨trivial, List.forall_mem_cons.mpr ⟨trivial, List.forall_mem_cons.mpr ⟨⟨_, _, _, rfl, by decide, zm_f8.1, zm_f8.2.1, zm_f8.2.2, Or.inl ⟨_, zw_572, Or.inl rfl⟩⟩, fun _ h => absurd h List.not_mem_nil⟩⟩⟩⟩⟩⟩
set_option maxRecDepth 100000 in
theorem zq_41_4 : ∀ e ∈ zm_c41_4, zm_okq 41 e.2 := List.forall_mem_cons.mpr ⟨trivial, List.forall_mem_cons.mpr ⟨⟨_, _, _, rfl, by decide, zm_f8.1, zm_f8.2.1, zm_f8.2.2, Or.inl ⟨_, zw_574, Or.inl rfl⟩⟩, List.forall_mem_cons.mpr ⟨trivial, List.forall_mem_cons.mpr ⟨trivial, List.forall_mem_cons.mpr ⟨trivial, List.forall_mem_cons.mpr ⟨trivial, fun _ h => absurd h List.not_mem_nil⟩⟩⟩⟩⟩⟩
set_option maxRecDepth 100000 in
theorem zq_41_5 : ∀ e ∈ zm_c41_5, zm_okq 41 e.2 := List.forall_mem_cons.mpr ⟨trivial, List.forall_mem_cons.mpr ⟨trivial, List.forall_mem_cons.mpr ⟨trivial, List.forall_mem_cons.mpr ⟨⟨⟨_, _, _, rfl, by decide, zm_f8.1, zm_f8.2.1, zm_f8.2.2, Or.inl ⟨_, zw_578, Or.inl rfl⟩⟩, zm_okw_n rfl rfl⟩, List.forall_mem_cons.mpr ⟨trivial, List.forall_mem_cons.mpr ⟨trivial, fun _ h => absurd h List.not_mem_nil⟩⟩⟩⟩⟩⟩
set_option maxRecDepth 100000 in
theorem zq_42_0 : ∀ e ∈ zm_c42_0, zm_okq 42 e.2 := List.forall_mem_cons.mpr ⟨trivial, List.forall_mem_cons.mpr ⟨⟨_, _, _, rfl, by decide, zm_f8.1, zm_f8.2.1, zm_f8.2.2, Or.inl ⟨_, zw_578, Or.inl rfl⟩⟩, List.forall_mem_cons.mpr ⟨trivial, List.forall_mem_cons.mpr ⟨trivial, List.forall_mem_cons.mpr ⟨⟨_, _, _, rfl, by decide, zm_f8.1, zm_f8.2.1, zm_f8.2.2, Or.inl ⟨_, zw_578, Or.inl rfl⟩⟩, List.forall_mem_cons.mpr ⟨trivial, fun _ h => absurd h List.not_mem_nil⟩⟩⟩⟩⟩⟩
set_option maxRecDepth 100000 in
theorem zq_43_0 : ∀ e ∈ zm_c43_0, zm_okq 43 e.2 := List.forall_mem_cons.mpr ⟨trivial, List.forall_mem_cons.mpr ⟨trivial, List.forall_mem_cons.mpr ⟨trivial, List.forall_mem_cons.mpr ⟨trivial, List.forall_mem_cons.mpr ⟨trivial, List.forall_mem_cons.mpr ⟨⟨_, _, _, rfl, by decide, zm_f6.1, zm_f6.2.1, zm_f6.2.2, Or.inl ⟨_, zw_388, Or.inl rfl⟩⟩, fun _ h => absurd h List.not_mem_nil⟩⟩⟩⟩⟩⟩
set_option maxRecDepth 100000 in
theorem zq_43_1 : ∀ e ∈ zm_c43_1, zm_okq 43 e.2 := List.forall_mem_cons.mpr ⟨trivial, List.forall_mem_cons.mpr ⟨trivial, List.forall_mem_cons.mpr ⟨trivial, List.forall_mem_cons.mpr ⟨trivial, List.forall_mem_cons.mpr ⟨trivial, List.forall_mem_cons.mpr ⟨trivial, fun _ h => absurd h List.not_mem_nil⟩⟩⟩⟩⟩⟩
set_option maxRecDepth 100000 in
theorem zq_43_2 : ∀ e ∈ zm_c43_2, zm_okq 43 e.2 := List.forall_mem_cons.mpr ⟨trivial, List.forall_mem_cons.mpr ⟨trivial, List.forall_mem_cons.mpr ⟨⟨_, _, _, rfl, by decide, zm_f0.1, zm_f0.2.1, zm_f0.2.2, Or.inl ⟨_, zw_154, Or.inl rfl⟩⟩, List.forall_mem_cons.mpr ⟨trivial, List.forall_mem_cons.mpr ⟨trivial, List.forall_mem_cons.mpr ⟨trivial, fun _ h => absurd h List.not_mem_nil⟩⟩⟩⟩⟩⟩
set_option maxRecDepth 100000 in
theorem zq_43_3 : ∀ e ∈ zm_c43_3, zm_okq 43 e.2 := List.forall_mem_cons.mpr ⟨trivial, fun _ h => absurd h List.not_mem_nil⟩
set_option maxRecDepth 100000 in
theorem zq_44_0 : ∀ e ∈ zm_c44_0, zm_okq 44 e.2 := List.forall_mem_cons.mpr ⟨trivial, List.forall_mem_cons.mpr ⟨⟨_, _, _, rfl, by decide, zm_f0.1, zm_f0.2.1, zm_f0.2.2, Or.inl ⟨_, zw_155, Or.inl rfl⟩⟩, List.forall_mem_cons.mpr ⟨trivial, List.forall_mem_cons.mpr ⟨trivial, List.forall_mem_cons.mpr ⟨trivial, List.forall_mem_cons.mpr ⟨trivial, fun _ h => absurd h List.not_mem_nil⟩⟩⟩⟩⟩⟩
set_option maxRecDepth 100000 in
theorem zq_44_1 : ∀ e ∈ zm_c44_1, zm_okq 44 e.2 := List.forall_mem_cons.mpr ⟨trivial, List.forall_mem_cons.mpr ⟨trivial, List.forall_mem_cons.mpr ⟨trivial, fun _ h => absurd h List.not_mem_nil⟩⟩⟩
set_option maxRecDepth 100000 in
theorem zq_45_0 : ∀ e ∈ zm_c45_0, zm_okq 45 e.2 := List.forall_mem_cons.mpr ⟨trivial, List.forall_mem_cons.mpr ⟨⟨_, _, _, rfl, by decide, zm_f0.1, zm_f0.2.1, zm_f0.2.2, Or.inl ⟨_, zw_157, Or.inl rfl⟩⟩, List.forall_mem_cons.mpr ⟨trivial, List.forall_mem_cons.mpr ⟨trivial, List.forall_mem_cons.mpr ⟨trivial, List.forall_mem_cons.mpr ⟨trivial, fun _ h => absurd h List.not_mem_nil⟩⟩⟩⟩⟩⟩
set_option maxRecDepth 100000 in
theorem zq_45_1 : ∀ e ∈ zm_c45_1, zm_okq 45 e.2 := List.forall_mem_cons.mpr ⟨⟨_, _, _, rfl, by decide, zm_f0.1, zm_f0.2.1, zm_f0.2.2, Or.inl ⟨_, zw_157, Or.inl rfl⟩⟩, List.forall_mem_cons.mpr ⟨trivial, List.forall_mem_cons.mpr ⟨trivial, List.forall_mem_cons.mpr ⟨⟨⟨_, _, _, rfl, by decide, zm_f0.1, zm_f0.2.1, zm_f0.2.2, Or.inl ⟨_, zw_157, Or.inl rfl⟩⟩, zm_okw_n rfl rfl⟩, List.forall_mem_cons.mpr ⟨trivial, List.forall_mem_cons.mpr ⟨trivial, fun _ h => absurd h List.not_mem_nil⟩⟩⟩⟩⟩⟩
set_option maxRecDepth 100000 in
theorem zq_45_2 : ∀ e ∈ zm_c45_2, zm_okq 45 e.2 := List.forall_mem_cons.mpr ⟨⟨_, _, _, rfl, by decide, zm_f0.1, zm_f0.2.1, zm_f0.2.2, Or.inl ⟨_, zw_158, Or.inl rfl⟩⟩, List.forall_mem_cons.mpr ⟨trivial, List.forall_mem_cons.mpr ⟨trivial, List.forall_mem_cons.mpr ⟨⟨⟨_, _, _, rfl, by decide, zm_f0.1, zm_f0.2.1, zm_f0.2.2, Or.inl ⟨_, zw_158, Or.inl rfl⟩⟩, zm_okw_n rfl rfl⟩, List.forall_mem_cons.mpr ⟨trivial, List.forall_mem_cons.mpr ⟨trivial, fun _ h => absurd h List.not_mem_nil⟩⟩⟩⟩⟩⟩
set_option maxRecDepth 100000 in
theorem zq_45_3 : ∀ e ∈ zm_c45_3, zm_okq 45 e.2 := List.forall_mem_cons.mpr ⟨⟨_, _, _, rfl, by decide, zm_f6.1, zm_f6.2.1, zm_f6.2.2, Or.inl ⟨_, zw_390, Or.inl rfl⟩⟩, List.forall_mem_cons.mpr ⟨trivial, List.forall_mem_cons.mpr ⟨trivial, List.forall_mem_cons.mpr ⟨trivial, List.forall_mem_cons.mpr ⟨trivial, List.forall_mem_cons.mpr ⟨trivial, fun _ h => absurd h List.not_mem_nil⟩⟩⟩⟩⟩⟩
set_option maxRecDepth 100000 in
theorem zq_45_4 : ∀ e ∈ zm_c45_4, zm_okq 45 e.2 := List.forall_mem_cons.mpr ⟨trivial, fun _ h => absurd h List.not_mem_nil⟩
set_option maxRecDepth 100000 in
theorem zq_46_0 : ∀ e ∈ zm_c46_0, zm_okq 46 e.2 := List.forall_mem_cons.mpr ⟨trivial, List.forall_mem_cons.mpr ⟨trivial, List.forall_mem_cons.mpr ⟨trivial, List.forall_mem_cons.mpr ⟨trivial, List.forall_mem_cons.mpr ⟨trivial, List.forall_mem_cons.mpr ⟨trivial, fun _ h => absurd h List.not_mem_nil⟩⟩⟩⟩⟩⟩
set_option maxRecDepth 100000 in
theorem zq_46_1 : ∀ e ∈ zm_c46_1, zm_okq 46 e.2 := List.forall_mem_cons.mpr ⟨⟨⟨_, _, _, rfl, by decide, zm_f3.1, zm_f3.2.1, zm_f3.2.2, Or.inl ⟨_, zw_83, Or.inl rfl⟩⟩, zm_okw_n rfl rfl⟩, List.forall_mem_cons.mpr ⟨trivial, List.forall_mem_cons.mpr ⟨trivial, List.forall_mem_cons.mpr ⟨⟨⟨_, _, _, rfl, by decide, zm_f3.1, zm_f3.2.1, zm_f3.2.2, Or.inl ⟨_, zw_89, Or.inl rfl⟩⟩, zm_okw_n rfl rfl⟩, List.forall_mem_cons.mpr ⟨trivial, List.forall_mem_cons.mpr ⟨trivial, fun _ h => absurd h List.not_mem_nil⟩⟩⟩⟩⟩⟩
set_option maxRecDepth 100000 in
theorem zq_47_0 : ∀ e ∈ zm_c47_0, zm_okq 47 e.2 := List.forall_mem_cons.mpr ⟨trivial, List.forall_mem_cons.mpr ⟨⟨_, _, _, rfl, by decide, zm_f7.1, zm_f7.2.1, zm_f7.2.2, Or.inl ⟨_, zw_361, Or.inl rfl⟩⟩, List.forall_mem_cons.mpr ⟨trivial, List.forall_mem_cons.mpr ⟨trivial, List.forall_mem_cons.mpr ⟨trivial, List.forall_mem_cons.mpr ⟨trivial, fun _ h => absurd h List.not_mem_nil⟩⟩⟩⟩⟩⟩
set_option maxRecDepth 100000 in
theorem zq_47_1 : ∀ e ∈ zm_c47_1, zm_okq 47 e.2 := List.forall_mem_cons.mpr ⟨⟨_, _, _, rfl, by decide, zm_f7.1, zm_f7.2.1, zm_f7.2.2, Or.inl ⟨_, zw_363, Or.inl rfl⟩⟩, List.forall_mem_cons.mpr ⟨trivial, List.forall_mem_cons.mpr ⟨trivial, List.forall_mem_cons.mpr ⟨trivial, List.forall_mem_cons.mpr ⟨⟨_, _, _, rfl, by decide, zm_f0.1, zm_f0.2.1, zm_f0.2.2, Or.inl ⟨_, zw_154, Or.inl rfl⟩⟩, List.forall_mem_cons.mpr ⟨trivial, fun _ h => absurd h List.not_mem_nil⟩⟩⟩⟩⟩⟩
set_option maxRecDepth 100000 in
theorem zq_47_2 : ∀ e ∈ zm_c47_2, zm_okq 47 e.2 := List.forall_mem_cons.mpr ⟨trivial, List.forall_mem_cons.mpr ⟨trivial, List.forall_mem_cons.mpr ⟨trivial, fun _ h => absurd h List.not_mem_nil⟩⟩⟩
set_option maxRecDepth 100000 in
theorem zq_48_0 : ∀ e ∈ zm_c48_0, zm_okq 48 e.2 := List.forall_mem_cons.mpr ⟨trivial, List.forall_mem_cons.mpr ⟨⟨_, _, _, rfl, by decide, zm_f2.1, zm_f2.2.1, zm_f2.2.2, Or.inl ⟨_, zw_134, Or.inl rfl⟩⟩, List.forall_mem_cons.mpr ⟨trivial, List.forall_mem_cons.mpr ⟨⟨_, _, _, rfl, by decide, zm_f2.1, zm_f2.2.1, zm_f2.2.2, Or.inl ⟨_, zw_131, Or.inl rfl⟩⟩, List.forall_mem_cons.mpr ⟨trivial, List.forall_mem_cons.mpr ⟨trivial, fun _ h => absurd h List.not_mem_nil⟩⟩⟩⟩⟩⟩
set_option maxRecDepth 100000 in
theorem zq_48_1 : ∀ e ∈ zm_c48_1, zm_okq 48 e.2 := List.forall_mem_cons.mpr ⟨trivial, List.forall_mem_cons.mpr ⟨⟨_, _, _, rfl, by decide, zm_f2.1, zm_f2.2.1, zm_f2.2.2, Or.inl ⟨_, zw_131, Or.inl rfl⟩⟩, List.forall_mem_cons.mpr ⟨⟨_, _, _, rfl, rfl, zm_f8.1, zm_f8.2.1, zw_565, zw_566, zw_23⟩, List.forall_mem_cons.mpr ⟨trivial, List.forall_mem_cons.mpr ⟨trivial, List.forall_mem_cons.mpr ⟨trivial, fun _ h => absurd h List.not_mem_nil⟩⟩⟩⟩⟩⟩
set_option maxRecDepth 100000 in
theorem zq_48_2 : ∀ e ∈ zm_c48_2, zm_okq 48 e.2 := List.forall_mem_cons.mpr ⟨trivial, List.forall_mem_cons.mpr ⟨trivial, List.forall_mem_cons.mpr ⟨⟨_, _, _, rfl, by decide, zm_f2.1, zm_f2.2.1, zm_f2.2.2, Or.inl ⟨_, zw_131, Or.inl rfl⟩⟩, List.forall_mem_cons.mpr ⟨trivial, List.forall_mem_cons.mpr ⟨⟨_, _, _, rfl, by decide, zm_f2.1, zm_f2.2.1, zm_f2.2.2, Or.inl ⟨_, zw_134, Or.inl rfl⟩⟩, List.forall_mem_cons.mpr ⟨trivial, fun _ h => absurd h List.not_mem_nil⟩⟩⟩⟩⟩⟩
set_option maxRecDepth 100000 in
theorem zq_48_3 : ∀ e ∈ zm_c48_3, zm_okq 48 e.2 := List.forall_mem_cons.mpr ⟨⟨_, _, _, _, zw_565, rfl, Or.inl rfl⟩, List.forall_mem_cons.mpr ⟨trivial, List.forall_mem_cons.mpr ⟨trivial, List.forall_mem_cons.mpr ⟨trivial, List.forall_mem_cons.mpr ⟨⟨_, _, _, rfl, by decide, zm_f2.1, zm_f2.2.1, zm_f2.2.2, Or.inl ⟨_, zw_134, Or.inl rfl⟩⟩, List.forall_mem_cons.mpr ⟨trivial, fun _ h => absurd h List.not_mem_nil⟩⟩⟩⟩⟩⟩
set_option maxRecDepth 100000 in
theorem zq_48_4 : ∀ e ∈ zm_c48_4, zm_okq 48 e.2 := List.forall_mem_cons.mpr ⟨trivial, List.forall_mem_cons.mpr ⟨⟨⟨_, _, _, rfl, by decide, zm_f2.1, zm_f2.2.1, zm_f2.2.2, Or.inl ⟨_, zw_134, Or.inl rfl⟩⟩, zm_okw_n rfl rfl⟩, List.forall_mem_cons.mpr ⟨trivial, List.forall_mem_cons.mpr ⟨trivial, List.forall_mem_cons.mpr ⟨⟨⟨_, _, _, rfl, by decide, zm_f8.1, zm_f8.2.1, zm_f8.2.2, Or.inl ⟨_, zw_571, Or.inl rfl⟩⟩, zm_okw_n rfl rfl⟩, List.forall_mem_cons.mpr ⟨trivial, fun _ h => absurd h List.not_mem_nil⟩⟩⟩⟩⟩⟩
set_option maxRecDepth 100000 in
theorem zq_48_5 : ∀ e ∈ zm_c48_5, zm_okq 48 e.2 := List.forall_mem_cons.mpr ⟨trivial, List.forall_mem_cons.mpr ⟨⟨⟨_, _, _, rfl, by decide, zm_f8.1, zm_f8.2.1, zm_f8.2.2, Or.inl ⟨_, zw_573, Or.inl rfl⟩⟩, zm_okw_n rfl rfl⟩, List.forall_mem_cons.mpr ⟨trivial, List.forall_mem_cons.mpr ⟨trivial, List.forall_mem_cons.mpr ⟨⟨⟨_, _, _, rfl, by decide, zm_f8.1, zm_f8.2.1, zm_f8.2.2, Or.inl ⟨_, zw_575, Or.inl rfl⟩⟩, zm_okw_n rfl rfl⟩, List.forall_mem_cons.mpr ⟨trivial, fun _ h => absurd h List.not_mem_nil⟩⟩⟩⟩⟩⟩
set_option maxRecDepth 100000 in
theorem zq_48_6 : ∀ e ∈ zm_c48_6, zm_okq 48 e.2 := List.forall_mem_cons.mpr ⟨trivial, List.forall_mem_cons.mpr ⟨⟨⟨_, _, _, rfl, by decide, zm_f8.1, zm_f8.2.1, zm_f8.2.2, Or.inl ⟨_, zw_577, Or.inl rfl⟩⟩, zm_okw_n rfl rfl⟩, List.forall_mem_cons.mpr ⟨trivial, List.forall_mem_cons.mpr ⟨trivial, fun _ h => absurd h List.not_mem_nil⟩⟩⟩⟩
set_option maxRecDepth 100000 in
theorem zq_49_0 : ∀ e ∈ zm_c49_0, zm_okq 49 e.2 := List.forall_mem_cons.mpr ⟨trivial, List.forall_mem_cons.mpr ⟨trivial, List.forall_mem_cons.mpr ⟨trivial, fun _ h => absurd h List.not_mem_nil⟩⟩⟩
set_option maxRecDepth 100000 in
theorem zq_50_0 : ∀ e ∈ zm_c50_0, zm_okq 50 e.2 := List.forall_mem_cons.mpr ⟨trivial, List.forall_mem_cons.mpr ⟨trivial, List.forall_mem_cons.mpr ⟨trivial, List.forall_mem_cons.mpr ⟨trivial, List.forall_mem_cons.mpr ⟨trivial, List.forall_mem_cons.mpr ⟨trivial, fun _ h => absurd h List.not_mem_nil⟩⟩⟩⟩⟩⟩
set_option maxRecDepth 100000 in
theorem zq_50_1 : ∀ e ∈ zm_c50_1, zm_okq 50 e.2 := List.forall_mem_cons.mpr ⟨⟨⟨_, _, _, rfl, by decide, zm_f3.1, zm_f3.2.1, zm_f3.2.2, Or.inl ⟨_, zw_85, Or.inl rfl⟩⟩, zm_okw_n rfl rfl⟩, List.forall_mem_cons.mpr ⟨trivial, List.forall_mem_cons.mpr ⟨trivial, List.forall_mem_cons.mpr ⟨⟨⟨_, _, _, rfl, by decide, zm_f3.1, zm_f3.2.1, zm_f3.2.2, Or.inl ⟨_, zw_87, Or.inl rfl⟩⟩, zm_okw_n rfl rfl⟩, List.forall_mem_cons.mpr ⟨trivial, List.forall_mem_cons.mpr ⟨trivial, fun _ h => absurd h List.not_mem_nil⟩⟩⟩⟩⟩⟩
set_option maxRecDepth 100000 in
theorem zq_51_0 : ∀ e ∈ zm_c51_0, zm_okq 51 e.2 := List.forall_mem_cons.mpr ⟨trivial, List.forall_mem_cons.mpr ⟨trivial, List.forall_mem_cons.mpr ⟨⟨_, _, _, rfl, by decide, zm_f7.1, zm_f7.2.1, zm_f7.2.2, Or.inl ⟨_, zw_365, Or.inl rfl⟩⟩, List.forall_mem_cons.mpr ⟨trivial, List.forall_mem_cons.mpr ⟨trivial, List.forall_mem_cons.mpr ⟨trivial, fun _ h => absurd h List.not_mem_nil⟩⟩⟩⟩⟩⟩
set_option maxRecDepth 100000 in
theorem zq_51_1 : ∀ e ∈ zm_c51_1, zm_okq 51 e.2 := List.forall_mem_cons.mpr ⟨trivial, List.forall_mem_cons.mpr ⟨trivial, List.forall_mem_cons.mpr ⟨trivial, List.forall_mem_cons.mpr ⟨trivial, List.forall_mem_cons.mpr ⟨⟨_, _, _, rfl, by decide, zm_f3.1, zm_f3.2.1, zm_f3.2.2, Or.inl ⟨_, zw_82, Or.inl rfl⟩⟩, List.forall_mem_cons.mpr ⟨trivial, fun _ h => absurd h List.not_mem_nil⟩⟩⟩⟩⟩⟩
set_option maxRecDepth 100000 in
theorem zq_51_2 : ∀ e ∈ zm_c51_2, zm_okq 51 e.2 := List.forall_mem_cons.mpr ⟨trivial, List.forall_mem_cons.mpr ⟨trivial, List.forall_mem_cons.mpr ⟨trivial, List.forall_mem_cons.mpr ⟨⟨_, _, _, rfl, by decide, zm_f3.1, zm_f3.2.1, zm_f3.2.2, Or.inl ⟨_, zw_84, Or.inl rfl⟩⟩, List.forall_mem_cons.mpr ⟨trivial, List.forall_mem_cons.mpr ⟨trivial, fun _ h => absurd h List.not_mem_nil⟩⟩⟩⟩⟩⟩
set_option maxRecDepth 100000 in
theorem zq_51_3 : ∀ e ∈ zm_c51_3, zm_okq 51 e.2 := List.forall_mem_cons.mpr ⟨trivial, List.forall_mem_cons.mpr ⟨⟨_, _, _, rfl, by decide, zm_f0.1, zm_f0.2.1, zm_f0.2.2, Or.inl ⟨_, zw_154, Or.inl rfl⟩⟩, List.forall_mem_cons.mpr ⟨trivial, List.forall_mem_cons.mpr ⟨⟨_, _, _, rfl, by decide, zm_f3.1, zm_f3.2.1, zm_f3.2.2, Or.inl ⟨_, zw_90, Or.inl rfl⟩⟩, List.forall_mem_cons.mpr ⟨trivial, List.forall_mem_cons.mpr ⟨trivial, fun _ h => absurd h List.not_mem_nil⟩⟩⟩⟩⟩⟩
set_option maxRecDepth 100000 in
theorem zq_51_4 : ∀ e ∈ zm_c51_4, zm_okq 51 e.2 := List.forall_mem_cons.mpr ⟨⟨_, _, _, rfl, by decide, zm_f7.1, zm_f7.2.1, zm_f7.2.2, Or.inl ⟨_, zw_367, Or.inl rfl⟩⟩, List.forall_mem_cons.mpr ⟨trivial, List.forall_mem_cons.mpr ⟨trivial, List.forall_mem_cons.mpr ⟨trivial, List.forall_mem_cons.mpr ⟨trivial, List.forall_mem_cons.mpr ⟨trivial, fun _ h => absurd h List.not_mem_nil⟩⟩⟩⟩⟩⟩
set_option maxRecDepth 100000 in
theorem zq_51_5 : ∀ e ∈ zm_c51_5, zm_okq 51 e.2 := List.forall_mem_cons.mpr ⟨⟨_, _, _, rfl, by decide, zm_f9.1, zm_f9.2.1, zm_f9.2.2, Or.inl ⟨_, zw_627, Or.inl rfl⟩⟩, List.forall_mem_cons.mpr ⟨trivial, List.forall_mem_cons.mpr ⟨⟨_, _, _, rfl, by decide, zm_f6.1, zm_f6.2.1, zm_f6.2.2, Or.inl ⟨_, zw_388, Or.inl rfl⟩⟩, List.forall_mem_cons.mpr ⟨trivial, List.forall_mem_cons.mpr ⟨trivial, List.forall_mem_cons.mpr ⟨⟨_, _, _, rfl, by decide, zm_f0.1, zm_f0.2.1, zm_f0.2.2, Or.inl ⟨_, zw_154, Or.inl rfl⟩⟩, fun _ h => absurd h List.not_mem_nil⟩⟩⟩⟩⟩⟩
set_option maxRecDepth 100000 in
theorem zq_51_6 : ∀ e ∈ zm_c51_6, zm_okq 51 e.2 := List.forall_mem_cons.mpr ⟨trivial, List.forall_mem_cons.mpr ⟨⟨_, _, _, rfl, by decide, zm_f3.1, zm_f3.2.1, zm_f3.2.2, Or.inl ⟨_, zw_84, Or.inl rfl⟩⟩, List.forall_mem_cons.mpr ⟨trivial, List.forall_mem_cons.mpr ⟨trivial, List.forall_mem_cons.mpr ⟨trivial, List.forall_mem_cons.mpr ⟨trivial, fun _ h => absurd h List.not_mem_nil⟩⟩⟩⟩⟩⟩
set_option maxRecDepth 100000 in
theorem zq_51_7 : ∀ e ∈ zm_c51_7, zm_okq 51 e.2 := List.forall_mem_cons.mpr ⟨trivial, List.forall_mem_cons.mpr ⟨trivial, List.forall_mem_cons.mpr ⟨trivial, List.forall_mem_cons.mpr ⟨trivial, List.forall_mem_cons.mpr ⟨trivial, fun _ h => absurd h List.not_mem_nil⟩⟩⟩⟩⟩
set_option maxRecDepth 100000 in
theorem zq_52_0 : ∀ e ∈ zm_c52_0, zm_okq 52 e.2 := List.forall_mem_cons.mpr ⟨trivial, List.forall_mem_cons.mpr ⟨⟨_, _, _, rfl, by decide, zm_f2.1, zm_f2.2.1, zm_f2.2.2, Or.inl ⟨_, zw_135, Or.inl rfl⟩⟩, List.forall_mem_cons.mpr ⟨trivial, List.forall_mem_cons.mpr ⟨⟨_, _, _, rfl, by decide, zm_f2.1, zm_f2.2.1, zm_f2.2.2, Or.inl ⟨_, zw_132, Or.inl rfl⟩⟩, List.forall_mem_cons.mpr ⟨trivial, List.forall_mem_cons.mpr ⟨trivial, fun _ h => absurd h List.not_mem_nil⟩⟩⟩⟩⟩⟩
set_option maxRecDepth 100000 in
theorem zq_52_1 : ∀ e ∈ zm_c52_1, zm_okq 52 e.2 := List.forall_mem_cons.mpr ⟨trivial, List.forall_mem_cons.mpr ⟨⟨_, _, _, rfl, by decide, zm_f2.1, zm_f2.2.1, zm_f2.2.2, Or.inl ⟨_, zw_132, Or.inl rfl⟩⟩, List.forall_mem_cons.mpr ⟨⟨_, _, _, rfl, rfl, zm_f9.1, zm_f9.2.1, zw_616, zw_617, zw_25⟩, List.forall_mem_cons.mpr ⟨trivial, List.forall_mem_cons.mpr ⟨trivial, List.forall_mem_cons.mpr ⟨trivial, fun _ h => absurd h List.not_mem_nil⟩⟩⟩⟩⟩⟩
set_option maxRecDepth 100000 in
theorem zq_52_2 : ∀ e ∈ zm_c52_2, zm_okq 52 e.2 := List.forall_mem_cons.mpr ⟨trivial, List.forall_mem_cons.mpr ⟨trivial, List.forall_mem_cons.mpr ⟨⟨_, _, _, rfl, by decide, zm_f2.1, zm_f2.2.1, zm_f2.2.2, Or.inl ⟨_, zw_132, Or.inl rfl⟩⟩, List.forall_mem_cons.mpr ⟨trivial, List.forall_mem_cons.mpr ⟨⟨_, _, _, rfl, by decide, zm_f2.1, zm_f2.2.1, zm_f2.2.2, Or.inl ⟨_, zw_135, Or.inl rfl⟩⟩, List.forall_mem_cons.mpr ⟨trivial, fun _ h => absurd h List.not_mem_nil⟩⟩⟩⟩⟩⟩
set_option maxRecDepth 100000 in
theorem zq_52_3 : ∀ e ∈ zm_c52_3, zm_okq 52 e.2 := List.forall_mem_cons.mpr ⟨⟨_, _, _, _, zw_616, rfl, Or.inl rfl⟩, List.forall_mem_cons.mpr ⟨trivial, List.forall_mem_cons.mpr ⟨trivial, List.forall_mem_cons.mpr ⟨trivial, List.forall_mem_cons.mpr ⟨⟨_, _, _, rfl, by decide, zm_f2.1, zm_f2.2.1, zm_f2.2.2, Or.inl ⟨_, zw_135, Or.inl rfl⟩⟩, List.forall_mem_cons.mpr ⟨trivial, fun _ h => absurd h List.not_mem_nil⟩⟩⟩⟩⟩⟩
set_option maxRecDepth 100000 in
theorem zq_52_4 : ∀ e ∈ zm_c52_4, zm_okq 52 e.2 := List.forall_mem_cons.mpr ⟨trivial, List.forall_mem_cons.mpr ⟨⟨⟨_, _, _, rfl, by decide, zm_f2.1, zm_f2.2.1, zm_f2.2.2, Or.inl ⟨_, zw_135, Or.inl rfl⟩⟩, zm_okw_n rfl rfl⟩, List.forall_mem_cons.mpr ⟨trivial, List.forall_mem_cons.mpr ⟨trivial, List.forall_mem_cons.mpr ⟨⟨⟨_, _, _, rfl, by decide, zm_f9.1, zm_f9.2.1, zm_f9.2.2, Or.inl ⟨_, zw_622, Or.inl rfl⟩⟩, zm_okw_n rfl rfl⟩, List.forall_mem_cons.mpr ⟨trivial, fun _ h => absurd h List.not_mem_nil⟩⟩⟩⟩⟩⟩
set_option maxRecDepth 100000 in
theorem zq_52_5 : ∀ e ∈ zm_c52_5, zm_okq 52 e.2 := List.forall_mem_cons.mpr ⟨trivial, List.forall_mem_cons.mpr ⟨⟨⟨_, _, _, rfl, by decide, zm_f9.1, zm_f9.2.1, zm_f9.2.2, Or.inl ⟨_, zw_624, Or.inl rfl⟩⟩, zm_okw_n rfl rfl⟩, List.forall_mem_cons.mpr ⟨trivial, List.forall_mem_cons.mpr ⟨trivial, List.forall_mem_cons.mpr ⟨trivial, List.forall_mem_cons.mpr ⟨trivial, fun _ h => absurd h List.not_mem_nil⟩⟩⟩⟩⟩⟩
set_option maxRecDepth 100000 in
theorem zq_52_6 : ∀ e ∈ zm_c52_6, zm_okq 52 e.2 := List.forall_mem_cons.mpr ⟨trivial, List.forall_mem_cons.mpr ⟨trivial, List.forall_mem_cons.mpr ⟨⟨_, _, _, rfl, by decide, zm_f9.1, zm_f9.2.1, zm_f9.2.2, Or.inl ⟨_, zw_626, Or.inl rfl⟩⟩, List.forall_mem_cons.mpr ⟨trivial, List.forall_mem_cons.mpr ⟨trivial, List.forall_mem_cons.mpr ⟨⟨⟨_, _, _, rfl, by decide, zm_f9.1, zm_f9.2.1, zm_f9.2.2, Or.inl ⟨_, zw_626, Or.inl rfl⟩⟩, zm_okw_n rfl rfl⟩, fun _ h => absurd h List.not_mem_nil⟩⟩⟩⟩⟩⟩
set_option maxRecDepth 100000 in
theorem zq_52_7 : ∀ e ∈ zm_c52_7, zm_okq 52 e.2 := List.forall_mem_cons.mpr ⟨trivial, List.forall_mem_cons.mpr ⟨trivial, fun _ h => absurd h List.not_mem_nil⟩⟩
set_option maxRecDepth 100000 in
theorem zq_53_0 : ∀ e ∈ zm_c53_0, zm_okq 53 e.2 := List.forall_mem_cons.mpr ⟨trivial, List.forall_mem_cons.mpr ⟨trivial, List.forall_mem_cons.mpr ⟨trivial, fun _ h => absurd h List.not_mem_nil⟩⟩⟩
set_option maxRecDepth 100000 in
theorem zq_54_0 : ∀ e ∈ zm_c54_0, zm_okq 54 e.2 := List.forall_mem_cons.mpr ⟨trivial, List.forall_mem_cons.mpr ⟨⟨_, _, _, rfl, by decide, zm_f3.1, zm_f3.2.1, zm_f3.2.2, Or.inl ⟨_, zw_82, Or.inl rfl⟩⟩, List.forall_mem_cons.mpr ⟨trivial, List.forall_mem_cons.mpr ⟨trivial, List.forall_mem_cons.mpr ⟨trivial, List.forall_mem_cons.mpr ⟨⟨_, _, _, rfl, by decide, zm_f3.1, zm_f3.2.1, zm_f3.2.2, Or.inl ⟨_, zw_82, Or.inl rfl⟩⟩, fun _ h => absurd h List.not_mem_nil⟩⟩⟩⟩⟩⟩
set_option maxRecDepth 100000 in
theorem zq_54_1 : ∀ e ∈ zm_c54_1, zm_okq 54 e.2 := List.forall_mem_cons.mpr ⟨trivial, List.forall_mem_cons.mpr ⟨trivial, List.forall_mem_cons.mpr ⟨trivial, List.forall_mem_cons.mpr ⟨trivial, fun _ h => absurd h List.not_mem_nil⟩⟩⟩⟩
set_option maxRecDepth 100000 in
theorem zq_55_0 : ∀ e ∈ zm_c55_0, zm_okq 55 e.2 := List.forall_mem_cons.mpr ⟨trivial, List.forall_mem_cons.mpr ⟨⟨_, _, _, rfl, by decide, zm_f3.1, zm_f3.2.1, zm_f3.2.2, Or.inl ⟨_, zw_82, Or.inl rfl⟩⟩, List.forall_mem_cons.mpr ⟨trivial, List.forall_mem_cons.mpr ⟨trivial, List.forall_mem_cons.mpr ⟨trivial, List.forall_mem_cons.mpr ⟨⟨_, _, _, rfl, by decide, zm_f3.1, zm_f3.2.1, zm_f3.2.2, Or.inl ⟨_, zw_82, Or.inl rfl⟩⟩, fun _ h => absurd h List.not_mem_nil⟩⟩⟩⟩⟩⟩
set_option maxRecDepth 100000 in
theorem zq_55_1 : ∀ e ∈ zm_c55_1, zm_okq 55 e.2 := List.forall_mem_cons.mpr ⟨trivial, List.forall_mem_cons.mpr ⟨trivial, List.forall_mem_cons.mpr ⟨trivial, List.forall_mem_cons.mpr ⟨⟨_, _, _, rfl, by decide, zm_f3.1, zm_f3.2.1, zm_f3.2.2, Or.inl ⟨_, zw_82, Or.inl rfl⟩⟩, List.forall_mem_cons.mpr ⟨trivial, List.forall_mem_cons.mpr ⟨trivial, fun _ h => absurd h List.not_mem_nil⟩⟩⟩⟩⟩⟩
set_option maxRecDepth 100000 in
theorem zq_55_2 : ∀ e ∈ zm_c55_2, zm_okq 55 e.2 := List.forall_mem_cons.mpr ⟨trivial, List.forall_mem_cons.mpr ⟨trivial, List.forall_mem_cons.mpr ⟨trivial, List.forall_mem_cons.mpr ⟨trivial, fun _ h => absurd h List.not_mem_nil⟩⟩⟩⟩
set_option maxRecDepth 100000 in
theorem zq_56_0 : ∀ e ∈ zm_c56_0, zm_okq 56 e.2 := List.forall_mem_cons.mpr ⟨trivial, List.forall_mem_cons.mpr ⟨trivial, List.forall_mem_cons.mpr ⟨⟨_, _, _, rfl, by decide, zm_f7.1, zm_f7.2.1, zm_f7.2.2, Or.inl ⟨_, zw_365, Or.inl rfl⟩⟩, List.forall_mem_cons.mpr ⟨trivial, List.forall_mem_cons.mpr ⟨trivial, List.forall_mem_cons.mpr ⟨trivial, fun _ h => absurd h List.not_mem_nil⟩⟩⟩⟩⟩⟩
set_option maxRecDepth 100000 in
theorem zq_56_1 : ∀ e ∈ zm_c56_1, zm_okq 56 e.2 := List.forall_mem_cons.mpr ⟨trivial, List.forall_mem_cons.mpr ⟨trivial, List.forall_mem_cons.mpr ⟨trivial, List.forall_mem_cons.mpr ⟨trivial, List.forall_mem_cons.mpr ⟨trivial, List.forall_mem_cons.mpr ⟨trivial, fun _ h => absurd h List.not_mem_nil⟩⟩⟩⟩⟩⟩
set_option maxRecDepth 100000 in
theorem zq_56_2 : ∀ e ∈ zm_c56_2, zm_okq 56 e.2 := List.forall_mem_cons.mpr ⟨trivial, List.forall_mem_cons.mpr ⟨trivial, List.forall_mem_cons.mpr ⟨⟨_, _, _, rfl, by decide, zm_f7.1, zm_f7.2.1, zm_f7.2.2, Or.inl ⟨_, zw_367, Or.inl rfl⟩⟩, List.forall_mem_cons.mpr ⟨trivial, List.forall_mem_cons.mpr ⟨trivial, List.forall_mem_cons.mpr ⟨⟨_, _, _, rfl, by decide, zm_f7.1, zm_f7.2.1, zm_f7.2.2, Or.inl ⟨_, zw_369, Or.inl rfl⟩⟩, fun _ h => absurd h List.not_mem_nil⟩⟩⟩⟩⟩⟩
set_option maxRecDepth 100000 in
theorem zq_56_3 : ∀ e ∈ zm_c56_3, zm_okq 56 e.2 := List.forall_mem_cons.mpr ⟨trivial, List.forall_mem_cons.mpr ⟨trivial, List.forall_mem_cons.mpr ⟨trivial, List.forall_mem_cons.mpr ⟨trivial, List.forall_mem_cons.mpr ⟨trivial, List.forall_mem_cons.mpr ⟨trivial, fun _ h => absurd h List.not_mem_nil⟩⟩⟩⟩⟩⟩
set_option maxRecDepth 100000 in
theorem zq_57_0 : ∀ e ∈ zm_c57_0, zm_okq 57 e.2 := List.forall_mem_cons.mpr ⟨trivial, List.forall_mem_cons.mpr ⟨⟨_, _, _, rfl, by decide, zm_f3.1, zm_f3.2.1, zm_f3.2.2, Or.inl ⟨_, zw_82, Or.inl rfl⟩⟩, List.forall_mem_cons.mpr ⟨trivial, List.forall_mem_cons.mpr ⟨trivial, List.forall_mem_cons.mpr ⟨⟨_, _, _, rfl, by decide, zm_f3.1, zm_f3.2.1, zm_f3.2.2, Or.inl ⟨_, zw_84, Or.inl rfl⟩⟩, List.forall_mem_cons.mpr ⟨trivial, fun _ h => absurd h List.not_mem_nil⟩⟩⟩⟩⟩⟩
set_option maxRecDepth 100000 in
theorem zq_58_0 : ∀ e ∈ zm_c58_0, zm_okq 58 e.2 := List.forall_mem_cons.mpr ⟨trivial, List.forall_mem_cons.mpr ⟨trivial, List.forall_mem_cons.mpr ⟨⟨_, _, _, rfl, by decide, zm_f7.1, zm_f7.2.1, zm_f7.2.2, Or.inl ⟨_, zw_365, Or.inl rfl⟩⟩, List.forall_mem_cons.mpr ⟨trivial, List.forall_mem_cons.mpr ⟨trivial, List.forall_mem_cons.mpr ⟨trivial, fun _ h => absurd h List.not_mem_nil⟩⟩⟩⟩⟩⟩
set_option maxRecDepth 100000 in
theorem zq_58_1 : ∀ e ∈ zm_c58_1, zm_okq 58 e.2 := List.forall_mem_cons.mpr ⟨trivial, List.forall_mem_cons.mpr ⟨trivial, List.forall_mem_cons.mpr ⟨trivial, List.forall_mem_cons.mpr ⟨trivial, List.forall_mem_cons.mpr ⟨trivial, List.forall_mem_cons.mpr ⟨trivial, fun _ h => absurd h List.not_mem_nil⟩⟩⟩⟩⟩⟩
set_option maxRecDepth 100000 in
theorem zq_58_2 : ∀ e ∈ zm_c58_2, zm_okq 58 e.2 := List.forall_mem_cons.mpr ⟨⟨_, _, _, rfl, by decide, zm_f7.1, zm_f7.2.1, zm_f7.2.2, Or.inl ⟨_, zw_367, Or.inl rfl⟩⟩, List.forall_mem_cons.mpr ⟨trivial, List.forall_mem_cons.mpr ⟨trivial, List.forall_mem_cons.mpr ⟨trivial, List.forall_mem_cons.mpr ⟨trivial, List.forall_mem_cons.mpr ⟨trivial, fun _ h => absurd h List.not_mem_nil⟩⟩⟩⟩⟩⟩
set_option maxRecDepth 100000 in
theorem zq_58_3 : ∀ e ∈ zm_c58_3, zm_okq 58 e.2 := List.forall_mem_cons.mpr ⟨trivial, List.forall_mem_cons.mpr ⟨trivial, List.forall_mem_cons.mpr ⟨trivial, List.forall_mem_cons.mpr ⟨⟨_, _, _, rfl, by decide, zm_f0.1, zm_f0.2.1, zm_f0.2.2, Or.inl ⟨_, zw_154, Or.inl rfl⟩⟩, List.forall_mem_cons.mpr ⟨trivial, List.forall_mem_cons.mpr ⟨⟨_, _, _, rfl, by decide, zm_f7.1, zm_f7.2.1, zm_f7.2.2, Or.inl ⟨_, zw_361, Or.inl rfl⟩⟩, fun _ h => absurd h List.not_mem_nil⟩⟩⟩⟩⟩⟩
set_option maxRecDepth 100000 in
theorem zq_58_4 : ∀ e ∈ zm_c58_4, zm_okq 58 e.2 := List.forall_mem_cons.mpr ⟨trivial, List.forall_mem_cons.mpr ⟨trivial, List.forall_mem_cons.mpr ⟨trivial, List.forall_mem_cons.mpr ⟨trivial, List.forall_mem_cons.mpr ⟨trivial, fun _ h => absurd h List.not_mem_nil⟩⟩⟩⟩⟩
set_option maxRecDepth 100000 in
theorem zq_59_0 : ∀ e ∈ zm_c59_0, zm_okq 59 e.2 := List.forall_mem_cons.mpr ⟨trivial, List.forall_mem_cons.mpr ⟨trivial, List.forall_mem_cons.mpr ⟨trivial, List.forall_mem_cons.mpr ⟨trivial, List.forall_mem_cons.mpr ⟨trivial, List.forall_mem_cons.mpr ⟨trivial, fun _ h => absurd h List.not_mem_nil⟩⟩⟩⟩⟩⟩
set_option maxRecDepth 100000 in
theorem zq_59_1 : ∀ e ∈ zm_c59_1, zm_okq 59 e.2 := List.forall_mem_cons.mpr ⟨trivial, List.forall_mem_cons.mpr ⟨trivial, List.forall_mem_cons.mpr ⟨trivial, List.forall_mem_cons.mpr ⟨trivial, List.forall_mem_cons.mpr ⟨trivial, List.forall_mem_cons.mpr ⟨trivial, fun _ h => absurd h List.not_mem_nil⟩⟩⟩⟩⟩⟩
set_option maxRecDepth 100000 in
theorem zq_59_2 : ∀ e ∈ zm_c59_2, zm_okq 59 e.2 := List.forall_mem_cons.mpr ⟨trivial, List.forall_mem_cons.mpr ⟨trivial, List.forall_mem_cons.mpr ⟨trivial, List.forall_mem_cons.mpr ⟨trivial, List.forall_mem_cons.mpr ⟨trivial, List.forall_mem_cons.mpr ⟨trivial, fun _ h => absurd h List.not_mem_nil⟩⟩⟩⟩⟩⟩
set_option maxRecDepth 100000 in
theorem zq_59_3 : ∀ e ∈ zm_c59_3, zm_okq 59 e.2 := List.forall_mem_cons.mpr ⟨trivial, List.forall_mem_cons.mpr ⟨trivial, List.forall_mem_cons.mpr ⟨trivial, List.forall_mem_cons.mpr ⟨trivial, List.forall_mem_cons.mpr ⟨trivial, List.forall_mem_cons.mpr ⟨trivial, fun _ h => absurd h List.not_mem_nil⟩⟩⟩⟩⟩⟩
set_option maxRecDepth 100000 in
theorem zq_59_4 : ∀ e ∈ zm_c59_4, zm_okq 59 e.2 := List.forall_mem_cons.mpr ⟨trivial, List.forall_mem_cons.mpr ⟨trivial, List.forall_mem_cons.mpr ⟨trivial, List.forall_mem_cons.mpr ⟨trivial, List.forall_mem_cons.mpr ⟨trivial, List.forall_mem_cons.mpr ⟨trivial, fun _ h => absurd h List.not_mem_nil⟩⟩⟩⟩⟩⟩
set_option maxRecDepth 100000 in
theorem zq_59_5 : ∀ e ∈ zm_c59_5, zm_okq 59 e.2 := List.forall_mem_cons.mpr ⟨trivial, List.forall_mem_cons.mpr ⟨trivial, List.forall_mem_cons.mpr ⟨trivial, List.forall_mem_cons.mpr ⟨trivial, List.forall_mem_cons.mpr ⟨trivial, List.forall_mem_cons.mpr ⟨trivial, fun _ h => absurd h List.not_mem_nil⟩⟩⟩⟩⟩⟩
set_option maxRecDepth 100000 in
theorem zq_59_6 : ∀ e ∈ zm_c59_6, zm_okq 59 e.2 := List.forall_mem_cons.mpr ⟨trivial, List.forall_mem_cons.mpr ⟨trivial, fun _ h => absurd h List.not_mem_nil⟩⟩
set_option maxRecDepth 100000 in
theorem zq_60_0 : ∀ e ∈ zm_c60_0, zm_okq 60 e.2 := List.forall_mem_cons.mpr ⟨trivial, List.forall_mem_cons.mpr ⟨trivial, List.forall_mem_cons.mpr ⟨trivial, List.forall_mem_cons.mpr ⟨trivial, fun _ h => absurd h List.not_mem_nil⟩⟩⟩⟩
set_option maxRecDepth 100000 in
theorem zq_61_0 : ∀ e ∈ zm_c61_0, zm_okq 61 e.2 := List.forall_mem_cons.mpr ⟨trivial, List.forall_mem_cons.mpr ⟨trivial, List.forall_mem_cons.mpr ⟨trivial, List.forall_mem_cons.mpr ⟨trivial, List.forall_mem_cons.mpr ⟨trivial, List.forall_mem_cons.mpr ⟨trivial, fun _ h => absurd h List.not_mem_nil⟩⟩⟩⟩⟩⟩
set_option maxRecDepth 100000 in
theorem zq_61_1 : ∀ e ∈ zm_c61_1, zm_okq 61 e.2 := List.forall_mem_cons.mpr ⟨trivial, List.forall_mem_cons.mpr ⟨trivial, List.forall_mem_cons.mpr ⟨trivial, List.forall_mem_cons.mpr ⟨trivial, List.forall_mem_cons.mpr ⟨trivial, List.forall_mem_cons.mpr ⟨trivial, fun _ h => absurd h List.not_mem_nil⟩⟩⟩⟩⟩⟩
set_option maxRecDepth 100000 in
theorem zq_61_2 : ∀ e ∈ zm_c61_2, zm_okq 61 e.2 := List.forall_mem_cons.mpr ⟨trivial, List.forall_mem_cons.mpr ⟨trivial, List.forall_mem_cons.mpr ⟨trivial, fun _ h => absurd h List.not_mem_nil⟩⟩⟩
set_option maxRecDepth 100000 in
theorem zq_62_0 : ∀ e ∈ zm_c62_0, zm_okq 62 e.2 := List.forall_mem_cons.mpr ⟨trivial, List.forall_mem_cons.mpr ⟨⟨_, _, _, rfl, by decide, zm_f0.1, zm_f0.2.1, zm_f0.2.2, Or.inl ⟨_, zw_156, Or.inl rfl⟩⟩, List.forall_mem_cons.mpr ⟨trivial, List.forall_mem_cons.mpr ⟨trivial, List.forall_mem_cons.mpr ⟨⟨_, _, _, rfl, by decide, zm_f0.1, zm_f0.2.1, zm_f0.2.2, Or.inl ⟨_, zw_156, Or.inl rfl⟩⟩, List.forall_mem_cons.mpr ⟨trivial, fun _ h => absurd h List.not_mem_nil⟩⟩⟩⟩⟩⟩
set_option maxRecDepth 100000 in
theorem zq_62_1 : ∀ e ∈ zm_c62_1, zm_okq 62 e.2 := List.forall_mem_cons.mpr ⟨trivial, fun _ h => absurd h List.not_mem_nil⟩
set_option maxRecDepth 100000 in
theorem zq_63_0 : ∀ e ∈ zm_c63_0, zm_okq 63 e.2 := List.forall_mem_cons.mpr ⟨trivial, List.forall_mem_cons.mpr ⟨trivial, List.forall_mem_cons.mpr ⟨trivial, List.forall_mem_cons.mpr ⟨trivial, List.forall_mem_cons.mpr ⟨trivial, List.forall_mem_cons.mpr ⟨trivial, fun _ h => absurd h List.not_mem_nil⟩⟩⟩⟩⟩⟩
set_option maxRecDepth 100000 in
theorem zq_63_1 : ∀ e ∈ zm_c63_1, zm_okq 63 e.2 := List.forall_mem_cons.mpr ⟨trivial, List.forall_mem_cons.mpr ⟨trivial, List.forall_mem_cons.mpr ⟨trivial, List.forall_mem_cons.mpr ⟨trivial, List.forall_mem_cons.mpr ⟨trivial, List.forall_mem_cons.mpr ⟨trivial, fun _ h => absurd h List.not_mem_nil⟩⟩⟩⟩⟩⟩
set_option maxRecDepth 100000 in
theorem zq_63_2 : ∀ e ∈ zm_c63_2, zm_okq 63 e.2 := List.forall_mem_cons.mpr ⟨trivial, List.forall_mem_cons.mpr ⟨trivial, List.forall_mem_cons.mpr ⟨trivial, List.forall_mem_cons.mpr ⟨trivial, List.forall_mem_cons.mpr ⟨trivial, List.forall_mem_cons.mpr ⟨trivial, fun _ h => absurd h List.not_mem_nil⟩⟩⟩⟩⟩⟩
set_option maxRecDepth 100000 in
theorem zq_63_3 : ∀ e ∈ zm_c63_3, zm_okq 63 e.2 := List.forall_mem_cons.mpr ⟨trivial, List.forall_mem_cons.mpr ⟨trivial, List.forall_mem_cons.mpr ⟨trivial, fun _ h => absurd h List.not_mem_nil⟩⟩⟩
set_option maxRecDepth 100000 in
theorem zq_64_0 : ∀ e ∈ zm_c64_0, zm_okq 64 e.2 := List.forall_mem_cons.mpr ⟨trivial, List.forall_mem_cons.mpr ⟨trivial, List.forall_mem_cons.mpr ⟨trivial, List.forall_mem_cons.mpr ⟨trivial, List.forall_mem_cons.mpr ⟨trivial, List.forall_mem_cons.mpr ⟨⟨_, _, _, rfl, by decide, zm_f3.1, zm_f3.2.1, zm_f3.2.2, Or.inl ⟨_, zw_86, Or.inl rfl⟩⟩, fun _ h => absurd h List.not_mem_nil⟩⟩⟩⟩⟩⟩
set_option maxRecDepth 100000 in
theorem zq_64_1 : ∀ e ∈ zm_c64_1, zm_okq 64 e.2 := List.forall_mem_cons.mpr ⟨trivial, List.forall_mem_cons.mpr ⟨trivial, List.forall_mem_cons.mpr ⟨trivial, List.forall_mem_cons.mpr ⟨trivial, List.forall_mem_cons.mpr ⟨trivial, List.forall_mem_cons.mpr ⟨trivial, fun _ h => absurd h List.not_mem_nil⟩⟩⟩⟩⟩⟩
set_option maxRecDepth 100000 in
theorem zq_64_2 : ∀ e ∈ zm_c64_2, zm_okq 64 e.2 := List.forall_mem_cons.mpr ⟨⟨⟨_, _, _, rfl, by decide, zm_f0.1, zm_f0.2.1, zm_f0.2.2, Or.inl ⟨_, zw_156, Or.inl rfl⟩⟩, zm_okw_n rfl rfl⟩, List.forall_mem_cons.mpr ⟨trivial, List.forall_mem_cons.mpr ⟨trivial, fun _ h => absurd h List.not_mem_nil⟩⟩⟩
set_option maxRecDepth 100000 in
theorem zq_65_0 : ∀ e ∈ zm_c65_0, zm_okq 65 e.2 := List.forall_mem_cons.mpr ⟨trivial, List.forall_mem_cons.mpr ⟨⟨_, _, _, rfl, by decide, zm_f0.1, zm_f0.2.1, zm_f0.2.2, Or.inl ⟨_, zw_156, Or.inl rfl⟩⟩, List.forall_mem_cons.mpr ⟨trivial, List.forall_mem_cons.mpr ⟨trivial, List.forall_mem_cons.mpr ⟨trivial, List.forall_mem_cons.mpr ⟨⟨⟨_, _, _, rfl, by decide, zm_f0.1, zm_f0.2.1, zm_f0.2.2, Or.inl ⟨_, zw_156, Or.inl rfl⟩⟩, zm_okw_n rfl rfl⟩, fun _ h => absurd h List.not_mem_nil⟩⟩⟩⟩⟩⟩
set_option maxRecDepth 100000 in
theorem zq_65_1 : ∀ e ∈ zm_c65_1, zm_okq 65 e.2 := List.forall_mem_cons.mpr ⟨trivial, List.forall_mem_cons.mpr ⟨trivial, List.forall_mem_cons.mpr ⟨trivial, List.forall_mem_cons.mpr ⟨trivial, List.forall_mem_cons.mpr ⟨trivial, fun _ h => absurd h List.not_mem_nil⟩⟩⟩⟩⟩
set_option maxRecDepth 100000 in
theorem zq_66_0 : ∀ e ∈ zm_c66_0, zm_okq 66 e.2 := List.forall_mem_cons.mpr ⟨trivial, List.forall_mem_cons.mpr ⟨trivial, List.forall_mem_cons.mpr ⟨trivial, List.forall_mem_cons.mpr ⟨trivial, List.forall_mem_cons.mpr ⟨trivial, List.forall_mem_cons.mpr ⟨trivial, fun _ h => absurd h List.not_mem_nil⟩⟩⟩⟩⟩⟩
set_option maxRecDepth 100000 in
theorem zq_66_1 : ∀ e ∈ zm_c66_1, zm_okq 66 e.2 := List.forall_mem_cons.mpr ⟨trivial, List.forall_mem_cons.mpr ⟨trivial, List.forall_mem_cons.mpr ⟨trivial, List.forall_mem_cons.mpr ⟨trivial, List.forall_mem_cons.mpr ⟨trivial, List.forall_mem_cons.mpr ⟨trivial, fun _ h => absurd h List.not_mem_nil⟩⟩⟩⟩⟩⟩
set_option maxRecDepth 100000 in
theorem zq_66_2 : ∀ e ∈ zm_c66_2, zm_okq 66 e.2 := List.forall_mem_cons.mpr ⟨trivial, List.forall_mem_cons.mpr ⟨trivial, List.forall_mem_cons.mpr ⟨trivial, List.forall_mem_cons.mpr ⟨trivial, List.forall_mem_cons.mpr ⟨trivial, List.forall_mem_cons.mpr ⟨trivial, fun _ h => absurd h List.not_mem_nil⟩⟩⟩⟩⟩⟩
set_option maxRecDepth 100000 in
theorem zq_66_3 : ∀ e ∈ zm_c66_3, zm_okq 66 e.2 := List.forall_mem_cons.mpr ⟨trivial, List.forall_mem_cons.mpr ⟨trivial, List.forall_mem_cons.mpr ⟨trivial, fun _ h => absurd h List.not_mem_nil⟩⟩⟩
set_option maxRecDepth 100000 in
theorem zq_67_0 : ∀ e ∈ zm_c67_0, zm_okq 67 e.2 := List.forall_mem_cons.mpr ⟨trivial, List.forall_mem_cons.mpr ⟨trivial, List.forall_mem_cons.mpr ⟨trivial, List.forall_mem_cons.mpr ⟨trivial, List.forall_mem_cons.mpr ⟨trivial, List.forall_mem_cons.mpr ⟨trivial, fun _ h => absurd h List.not_mem_nil⟩⟩⟩⟩⟩⟩
set_option maxRecDepth 100000 in
theorem zq_67_1 : ∀ e ∈ zm_c67_1, zm_okq 67 e.2 := List.forall_mem_cons.mpr ⟨⟨_, _, _, rfl, by decide, zm_f3.1, zm_f3.2.1, zm_f3.2.2, Or.inl ⟨_, zw_88, Or.inl rfl⟩⟩, List.forall_mem_cons.mpr ⟨trivial, List.forall_mem_cons.mpr ⟨trivial, List.forall_mem_cons.mpr ⟨⟨⟨_, _, _, rfl, by decide, zm_f0.1, zm_f0.2.1, zm_f0.2.2, Or.inl ⟨_, zw_156, Or.inl rfl⟩⟩, zm_okw_n rfl rfl⟩, List.forall_mem_cons.mpr ⟨trivial, List.forall_mem_cons.mpr ⟨⟨_, _, _, rfl, by decide, zm_f0.1, zm_f0.2.1, zm_f0.2.2, Or.inl ⟨_, zw_156, Or.inl rfl⟩⟩, fun _ h => absurd h List.not_mem_nil⟩⟩⟩⟩⟩⟩
set_option maxRecDepth 100000 in
theorem zq_67_2 : ∀ e ∈ zm_c67_2, zm_okq 67 e.2 := List.forall_mem_cons.mpr ⟨⟨_, _, _, rfl, by decide, zm_f3.1, zm_f3.2.1, zm_f3.2.2, Or.inl ⟨_, zw_82, Or.inl rfl⟩⟩, List.forall_mem_cons.mpr ⟨trivial, fun _ h => absurd h List.not_mem_nil⟩⟩
set_option maxRecDepth 100000 in
theorem zq_68_0 : ∀ e ∈ zm_c68_0, zm_okq 68 e.2 := List.forall_mem_cons.mpr ⟨trivial, List.forall_mem_cons.mpr ⟨trivial, List.forall_mem_cons.mpr ⟨trivial, List.forall_mem_cons.mpr ⟨trivial, List.forall_mem_cons.mpr ⟨trivial, List.forall_mem_cons.mpr ⟨trivial, fun _ h => absurd h List.not_mem_nil⟩⟩⟩⟩⟩⟩
set_option maxRecDepth 100000 in
theorem zq_68_1 : ∀ e ∈ zm_c68_1, zm_okq 68 e.2 := List.forall_mem_cons.mpr ⟨trivial, List.forall_mem_cons.mpr ⟨trivial, List.forall_mem_cons.mpr ⟨trivial, List.forall_mem_cons.mpr ⟨trivial, List.forall_mem_cons.mpr ⟨trivial, List.forall_mem_cons.mpr ⟨trivial, fun _ h => absurd h List.not_mem_nil⟩⟩⟩⟩⟩⟩
set_option maxRecDepth 100000 in
theorem zq_69_0 : ∀ e ∈ zm_c69_0, zm_okq 69 e.2 := List.forall_mem_cons.mpr ⟨trivial, List.forall_mem_cons.mpr ⟨trivial, List.forall_mem_cons.mpr ⟨trivial, List.forall_mem_cons.mpr ⟨trivial, List.forall_mem_cons.mpr ⟨trivial, List.forall_mem_cons.mpr ⟨trivial, fun _ h => absurd h List.not_mem_nil⟩⟩⟩⟩⟩⟩
set_option maxRecDepth 100000 in
theorem zq_69_1 : ∀ e ∈ zm_c69_1, zm_okq 69 e.2 := List.forall_mem_cons.mpr ⟨trivial, List.forall_mem_cons.mpr ⟨trivial, List.forall_mem_cons.mpr ⟨trivial, List.forall_mem_cons.mpr ⟨trivial, List.forall_mem_cons.mpr ⟨⟨_, _, _, rfl, by decide, zm_f0.1, zm_f0.2.1, zm_f0.2.2, Or.inl ⟨_, zw_155, Or.inl rfl⟩⟩, List.forall_mem_cons.mpr ⟨trivial, fun _ h => absurd h List.not_mem_nil⟩⟩⟩⟩⟩⟩
set_option maxRecDepth 100000 in
theorem zq_69_2 : ∀ e ∈ zm_c69_2, zm_okq 69 e.2 := List.forall_mem_cons.mpr ⟨trivial, List.forall_mem_cons.mpr ⟨trivial, List.forall_mem_cons.mpr ⟨trivial, fun _ h => absurd h List.not_mem_nil⟩⟩⟩
set_option maxRecDepth 100000 in
theorem zq_70_0 : ∀ e ∈ zm_c70_0, zm_okq 70 e.2 := List.forall_mem_cons.mpr ⟨trivial, List.forall_mem_cons.mpr ⟨trivial, List.forall_mem_cons.mpr ⟨trivial, List.forall_mem_cons.mpr ⟨trivial, List.forall_mem_cons.mpr ⟨⟨_, rfl, rfl, zw_853⟩, List.forall_mem_cons.mpr ⟨⟨⟨_, _, _, rfl, by decide, zm_f5.1, zm_f5.2.1, zm_f5.2.2, Or.inl ⟨_, zw_720, Or.inl rfl⟩⟩, zm_okw_f rfl rfl rfl zw_720⟩, fun _ h => absurd h List.not_mem_nil⟩⟩⟩⟩⟩⟩
set_option maxRecDepth 100000 in
theorem zq_70_1 : ∀ e ∈ zm_c70_1, zm_okq 70 e.2 := List.forall_mem_cons.mpr ⟨trivial, List.forall_mem_cons.mpr ⟨trivial, List.forall_mem_cons.mpr ⟨⟨_, rfl, rfl, zw_853⟩, List.forall_mem_cons.mpr ⟨⟨⟨_, _, _, rfl, by decide, zm_f5.1, zm_f5.2.1, zm_f5.2.2, Or.inl ⟨_, zw_721, Or.inl rfl⟩⟩, zm_okw_f rfl rfl rfl zw_721⟩, List.forall_mem_cons.mpr ⟨trivial, List.forall_mem_cons.mpr ⟨trivial, fun _ h => absurd h List.not_mem_nil⟩⟩⟩⟩⟩⟩
set_option maxRecDepth 100000 in
theorem zq_70_2 : ∀ e ∈ zm_c70_2, zm_okq 70 e.2 := List.forall_mem_cons.mpr ⟨⟨_, rfl, rfl, zw_853⟩, List.forall_mem_cons.mpr ⟨⟨⟨_, _, _, rfl, by decide, zm_f5.1, zm_f5.2.1, zm_f5.2.2, Or.inl ⟨_, zw_722, Or.inl rfl⟩⟩, zm_okw_f rfl rfl rfl zw_722⟩, List.forall_mem_cons.mpr ⟨trivial, List.forall_mem_cons.mpr ⟨trivial, List.forall_mem_cons.mpr ⟨⟨_, rfl, rfl, zw_853⟩, List.forall_mem_cons.mpr ⟨⟨⟨_, _, _, rfl, by decide, zm_f5.1, zm_f5.2.1, zm_f5.2.2, Or.inl ⟨_, zw_723, Or.inl rfl⟩⟩, zm_okw_f rfl rfl rfl zw_723⟩, fun _ h => absurd h List.not_mem_nil⟩⟩⟩⟩⟩⟩
set_option maxRecDepth 100000 in
theorem zq_70_3 : ∀ e ∈ zm_c70_3, zm_okq 70 e.2 := List.forall_mem_cons.mpr ⟨trivial, List.forall_mem_cons.mpr ⟨trivial, List.forall_mem_cons.mpr ⟨⟨_, rfl, rfl, zw_853⟩, List.forall_mem_cons.mpr ⟨⟨⟨_, _, _, rfl, by decide, zm_f5.1, zm_f5.2.1, zm_f5.2.2, Or.inl ⟨_, zw_724, Or.inl rfl⟩⟩, zm_okw_f rfl rfl rfl zw_724⟩, List.forall_mem_cons.mpr ⟨trivial, List.forall_mem_cons.mpr ⟨trivial, fun _ h => absurd h List.not_mem_nil⟩⟩⟩⟩⟩⟩
set_option maxRecDepth 100000 in
theorem zq_70_4 : ∀ e ∈ zm_c70_4, zm_okq 70 e.2 := List.forall_mem_cons.mpr ⟨⟨_, rfl, rfl, zw_853⟩, List.forall_mem_cons.mpr ⟨⟨⟨_, _, _, rfl, by decide, zm_f5.1, zm_f5.2.1, zm_f5.2.2, Or.inl ⟨_, zw_725, Or.inl rfl⟩⟩, zm_okw_f rfl rfl rfl zw_725⟩, List.forall_mem_cons.mpr ⟨trivial, List.forall_mem_cons.mpr ⟨trivial, List.forall_mem_cons.mpr ⟨⟨_, rfl, rfl, zw_853⟩, List.forall_mem_cons.mpr ⟨⟨⟨_, _, _, rfl, by decide, zm_f5.1, zm_f5.2.1, zm_f5.2.2, Or.inl ⟨_, zw_726, Or.inl rfl⟩⟩, zm_okw_f rfl rfl rfl zw_726⟩, fun _ h => absurd h List.not_mem_nil⟩⟩⟩⟩⟩⟩
set_option maxRecDepth 100000 in
theorem zq_70_5 : ∀ e ∈ zm_c70_5, zm_okq 70 e.2 := List.forall_mem_cons.mpr ⟨trivial, List.forall_mem_cons.mpr ⟨trivial, List.forall_mem_cons.mpr ⟨⟨_, rfl, rfl, zw_854⟩, List.forall_mem_cons.mpr ⟨⟨⟨_, _, _, rfl, by decide, zm_f5.1, zm_f5.2.1, zm_f5.2.2, Or.inl ⟨_, zw_727, Or.inl rfl⟩⟩, zm_okw_f rfl rfl rfl zw_727⟩, List.forall_mem_cons.mpr ⟨trivial, List.forall_mem_cons.mpr ⟨trivial, fun _ h => absurd h List.not_mem_nil⟩⟩⟩⟩⟩⟩
set_option maxRecDepth 100000 in
theorem zq_70_6 : ∀ e ∈ zm_c70_6, zm_okq 70 e.2 := List.forall_mem_cons.mpr ⟨⟨⟨_, _, _, rfl, by decide, zm_f5.1, zm_f5.2.1, zm_f5.2.2, Or.inl ⟨_, zw_729, Or.inl rfl⟩⟩, zm_okw_n rfl rfl⟩, List.forall_mem_cons.mpr ⟨trivial, List.forall_mem_cons.mpr ⟨trivial, List.forall_mem_cons.mpr ⟨⟨_, rfl, rfl, zw_853⟩, List.forall_mem_cons.mpr ⟨⟨⟨_, _, _, rfl, by decide, zm_f5.1, zm_f5.2.1, zm_f5.2.2, Or.inl ⟨_, zw_733, Or.inl rfl⟩⟩, zm_okw_f rfl rfl rfl zw_733⟩, List.forall_mem_cons.mpr ⟨trivial, fun _ h => absurd h List.not_mem_nil⟩⟩⟩⟩⟩⟩
set_option maxRecDepth 100000 in
theorem zq_70_7 : ∀ e ∈ zm_c70_7, zm_okq 70 e.2 := List.forall_mem_cons.mpr ⟨trivial, List.forall_mem_cons.mpr ⟨⟨_, rfl, rfl, zw_853⟩, List.forall_mem_cons.mpr ⟨⟨⟨_, _, _, rfl, by decide, zm_f5.1, zm_f5.2.1, zm_f5.2.2, Or.inl ⟨_, zw_734, Or.inl rfl⟩⟩, zm_okw_f rfl rfl rfl zw_734⟩, List.forall_mem_cons.mpr ⟨trivial, List.forall_mem_cons.mpr ⟨trivial, List.forall_mem_cons.mpr ⟨⟨_, rfl, rfl, zw_853⟩, fun _ h => absurd h List.not_mem_nil⟩⟩⟩⟩⟩⟩
set_option maxRecDepth 100000 in
theorem zq_70_8 : ∀ e ∈ zm_c70_8, zm_okq 70 e.2 := List.forall_mem_cons.mpr ⟨⟨⟨_, _, _, rfl, by decide, zm_f5.1, zm_f5.2.1, zm_f5.2.2, Or.inl ⟨_, zw_735, Or.inl rfl⟩⟩, zm_okw_f rfl rfl rfl zw_735⟩, List.forall_mem_cons.mpr ⟨trivial, List.forall_mem_cons.mpr ⟨trivial, List.forall_mem_cons.mpr ⟨⟨_, rfl, rfl, zw_853⟩, List.forall_mem_cons.mpr ⟨⟨⟨_, _, _, rfl, by decide, zm_f5.1, zm_f5.2.1, zm_f5.2.2, Or.inl ⟨_, zw_736, Or.inl rfl⟩⟩, zm_okw_f rfl rfl rfl zw_736⟩, List.forall_mem_cons.mpr ⟨trivial, fun _ h => absurd h List.not_mem_nil⟩⟩⟩⟩⟩⟩
set_option maxRecDepth 100000 in
theorem zq_70_9 : ∀ e ∈ zm_c70_9, zm_okq 70 e.2 := List.forall_mem_cons.mpr ⟨trivial, List.forall_mem_cons.mpr ⟨⟨_, rfl, rfl, zw_853⟩, List.forall_mem_cons.mpr ⟨⟨⟨_, _, _, rfl, by decide, zm_f5.1, zm_f5.2.1, zm_f5.2.2, Or.inl ⟨_, zw_737, Or.inl rfl⟩⟩, zm_okw_f rfl rfl rfl zw_737⟩, List.forall_mem_cons.mpr ⟨trivial, List.forall_mem_cons.mpr ⟨trivial, List.forall_mem_cons.mpr ⟨⟨_, rfl, rfl, zw_853⟩, fun _ h => absurd h List.not_mem_nil⟩⟩⟩⟩⟩⟩
set_option maxRecDepth 100000 in
theorem zq_70_10 : ∀ e ∈ zm_c70_10, zm_okq 70 e.2 := List.forall_mem_cons.mpr ⟨⟨⟨_, _, _, rfl, by decide, zm_f5.1, zm_f5.2.1, zm_f5.2.2, Or.inl ⟨_, zw_738, Or.inl rfl⟩⟩, zm_okw_f rfl rfl rfl zw_738⟩, List.forall_mem_cons.mpr ⟨trivial, List.forall_mem_cons.mpr ⟨trivial, List.forall_mem_cons.mpr ⟨⟨_, rfl, rfl, zw_853⟩, List.forall_mem_cons.mpr ⟨⟨⟨_, _, _, rfl, by decide, zm_f5.1, zm_f5.2.1, zm_f5.2.2, Or.inl ⟨_, zw_739, Or.inl rfl⟩⟩, zm_okw_f rfl rfl rfl zw_739⟩, List.forall_mem_cons.mpr ⟨trivial, fun _ h => absurd h List.not_mem_nil⟩⟩⟩⟩⟩⟩
set_option maxRecDepth 100000 in
theorem zq_70_11 : ∀ e ∈ zm_c70_11, zm_okq 70 e.2 := List.forall_mem_cons.mpr ⟨trivial, List.forall_mem_cons.mpr ⟨⟨_, rfl, rfl, zw_853⟩, List.forall_mem_cons.mpr ⟨⟨⟨_, _, _, rfl, by decide, zm_f5.1, zm_f5.2.1, zm_f5.2.2, Or.inl ⟨_, zw_740, Or.inl rfl⟩⟩, zm_okw_f rfl rfl rfl zw_740⟩, List.forall_mem_cons.mpr ⟨trivial, List.forall_mem_cons.mpr ⟨trivial, List.forall_mem_cons.mpr ⟨⟨_, rfl, rfl, zw_853⟩, fun _ h => absurd h List.not_mem_nil⟩⟩⟩⟩⟩⟩
set_option maxRecDepth 100000 in
theorem zq_70_12 : ∀ e ∈ zm_c70_12, zm_okq 70 e.2 := List.forall_mem_cons.mpr ⟨⟨⟨_, _, _, rfl, by decide, zm_f5.1, zm_f5.2.1, zm_f5.2.2, Or.inl ⟨_, zw_741, Or.inl rfl⟩⟩, zm_okw_f rfl rfl rfl zw_741⟩, List.forall_mem_cons.mpr ⟨trivial, List.forall_mem_cons.mpr ⟨trivial, List.forall_mem_cons.mpr ⟨⟨_, rfl, rfl, zw_853⟩, List.forall_mem_cons.mpr ⟨⟨⟨_, _, _, rfl, by decide, zm_f5.1, zm_f5.2.1, zm_f5.2.2, Or.inl ⟨_, zw_742, Or.inl rfl⟩⟩, zm_okw_f rfl rfl rfl zw_742⟩, List.forall_mem_cons.mpr ⟨trivial, fun _ h => absurd h List.not_mem_nil⟩⟩⟩⟩⟩⟩
set_option maxRecDepth 100000 in
theorem zq_70_13 : ∀ e ∈ zm_c70_13, zm_okq 70 e.2 := List.forall_mem_cons.mpr ⟨trivial, List.forall_mem_cons.mpr ⟨⟨_, rfl, rfl, zw_853⟩, List.forall_mem_cons.mpr ⟨⟨⟨_, _, _, rfl, by decide, zm_f5.1, zm_f5.2.1, zm_f5.2.2, Or.inl ⟨_, zw_746, Or.inl rfl⟩⟩, zm_okw_f rfl rfl rfl zw_746⟩, List.forall_mem_cons.mpr ⟨trivial, List.forall_mem_cons.mpr ⟨trivial, List.forall_mem_cons.mpr ⟨⟨_, rfl, rfl, zw_853⟩, fun _ h => absurd h List.not_mem_nil⟩⟩⟩⟩⟩⟩
set_option maxRecDepth 100000 in
theorem zq_70_14 : ∀ e ∈ zm_c70_14, zm_okq 70 e.2 := List.forall_mem_cons.mpr ⟨⟨⟨_, _, _, rfl, by decide, zm_f5.1, zm_f5.2.1, zm_f5.2.2, Or.inl ⟨_, zw_747, Or.inl rfl⟩⟩, zm_okw_f rfl rfl rfl zw_747⟩, List.forall_mem_cons.mpr ⟨trivial, List.forall_mem_cons.mpr ⟨trivial, List.forall_mem_cons.mpr ⟨⟨_, rfl, rfl, zw_853⟩, List.forall_mem_cons.mpr ⟨⟨⟨_, _, _, rfl, by decide, zm_f5.1, zm_f5.2.1, zm_f5.2.2, Or.inl ⟨_, zw_748, Or.inl rfl⟩⟩, zm_okw_f rfl rfl rfl zw_748⟩, List.forall_mem_cons.mpr ⟨trivial, fun _ h => absurd h List.not_mem_nil⟩⟩⟩⟩⟩⟩
set_option maxRecDepth 100000 in
theorem zq_70_15 : ∀ e ∈ zm_c70_15, zm_okq 70 e.2 := List.forall_mem_cons.mpr ⟨trivial, List.forall_mem_cons.mpr ⟨⟨_, rfl, rfl, zw_853⟩, List.forall_mem_cons.mpr ⟨⟨⟨_, _, _, rfl, by decide, zm_f5.1, zm_f5.2.1, zm_f5.2.2, Or.inl ⟨_, zw_749, Or.inl rfl⟩⟩, zm_okw_f rfl rfl rfl zw_749⟩, List.forall_mem_cons.mpr ⟨trivial, List.forall_mem_cons.mpr ⟨trivial, List.forall_mem_cons.mpr ⟨⟨_, rfl, rfl, zw_853⟩, fun _ h => absurd h List.not_mem_nil⟩⟩⟩⟩⟩⟩
set_option maxRecDepth 100000 in
theorem zq_70_16 : ∀ e ∈ zm_c70_16, zm_okq 70 e.2 := List.forall_mem_cons.mpr ⟨⟨⟨_, _, _, rfl, by decide, zm_f5.1, zm_f5.2.1, zm_f5.2.2, Or.inl ⟨_, zw_750, Or.inl rfl⟩⟩, zm_okw_f rfl rfl rfl zw_750⟩, List.forall_mem_cons.mpr ⟨trivial, fun _ h => absurd h List.not_mem_nil⟩⟩
set_option maxRecDepth 100000 in
theorem zq_71_0 : ∀ e ∈ zm_c71_0, zm_okq 71 e.2 := List.forall_mem_cons.mpr ⟨trivial, List.forall_mem_cons.mpr ⟨trivial, List.forall_mem_cons.mpr ⟨trivial, List.forall_mem_cons.mpr ⟨trivial, List.forall_mem_cons.mpr ⟨trivial, List.forall_mem_cons.mpr ⟨trivial, fun _ h => absurd h List.not_mem_nil⟩⟩⟩⟩⟩⟩
set_option maxRecDepth 100000 in
theorem zq_71_1 : ∀ e ∈ zm_c71_1, zm_okq 71 e.2 := List.forall_mem_cons.mpr ⟨trivial, List.forall_mem_cons.mpr ⟨trivial, List.forall_mem_cons.mpr ⟨trivial, List.forall_mem_cons.mpr ⟨trivial, List.forall_mem_cons.mpr ⟨trivial, List.forall_mem_cons.mpr ⟨trivial, fun _ h => absurd h List.not_mem_nil⟩⟩⟩⟩⟩⟩
set_option maxRecDepth 100000 in
theorem zq_71_2 : ∀ e ∈ zm_c71_2, zm_okq 71 e.2 := List.forall_mem_cons.mpr ⟨trivial, List.forall_mem_cons.mpr ⟨trivial, List.forall_mem_cons.mpr ⟨trivial, List.forall_mem_cons.mpr ⟨trivial, List.forall_mem_cons.mpr ⟨trivial, List.forall_mem_cons.mpr ⟨trivial, fun _ h => absurd h List.not_mem_nil⟩⟩⟩⟩⟩⟩
set_option maxRecDepth 100000 in
theorem zq_71_3 : ∀ e ∈ zm_c71_3, zm_okq 71 e.2 := List.forall_mem_cons.mpr ⟨trivial, List.forall_mem_cons.mpr ⟨trivial, List.forall_mem_cons.mpr ⟨trivial, List.forall_mem_cons.mpr ⟨trivial, List.forall_mem_cons.mpr ⟨trivial, List.forall_mem_cons.mpr ⟨trivial, fun _ h => absurd h List.not_mem_nil⟩⟩⟩⟩⟩⟩
set_option maxRecDepth 100000 in
theorem zq_71_4 : ∀ e ∈ zm_c71_4, zm_okq 71 e.2 := List.forall_mem_cons.mpr ⟨trivial, List.forall_mem_cons.mpr ⟨trivial, List.forall_mem_cons.mpr ⟨trivial, List.forall_mem_cons.mpr ⟨trivial, List.forall_mem_cons.mpr ⟨trivial, List.forall_mem_cons.mpr ⟨trivial, fun _ h => absurd h List.not_mem_nil⟩⟩⟩⟩⟩⟩
set_option maxRecDepth 100000 in
theorem zq_71_5 : ∀ e ∈ zm_c71_5, zm_okq 71 e.2 := List.forall_mem_cons.mpr ⟨trivial, List.forall_mem_cons.mpr ⟨trivial, List.forall_mem_cons.mpr ⟨trivial, List.forall_mem_cons.mpr ⟨trivial, List.forall_mem_cons.mpr ⟨trivial, List.forall_mem_cons.mpr ⟨trivial, fun _ h => absurd h List.not_mem_nil⟩⟩⟩⟩⟩⟩
set_option maxRecDepth 100000 in
theorem zq_71_6 : ∀ e ∈ zm_c71_6, zm_okq 71 e.2 := List.forall_mem_cons.mpr ⟨⟨_, _, _, rfl, by decide, zm_f5.1, zm_f5.2.1, zm_f5.2.2, Or.inl ⟨_, zw_728, Or.inl rfl⟩⟩, List.forall_mem_cons.mpr ⟨trivial, List.forall_mem_cons.mpr ⟨trivial, List.forall_mem_cons.mpr ⟨trivial, List.forall_mem_cons.mpr ⟨trivial, List.forall_mem_cons.mpr ⟨trivial, fun _ h => absurd h List.not_mem_nil⟩⟩⟩⟩⟩⟩
set_option maxRecDepth 100000 in
theorem zq_71_7 : ∀ e ∈ zm_c71_7, zm_okq 71 e.2 := List.forall_mem_cons.mpr ⟨trivial, List.forall_mem_cons.mpr ⟨trivial, List.forall_mem_cons.mpr ⟨trivial, List.forall_mem_cons.mpr ⟨trivial, List.forall_mem_cons.mpr ⟨trivial, List.forall_mem_cons.mpr ⟨trivial, fun _ h => absurd h List.not_mem_nil⟩⟩⟩⟩⟩⟩
set_option maxRecDepth 100000 in
theorem zq_71_8 : ∀ e ∈ zm_c71_8, zm_okq 71 e.2 := List.forall_mem_cons.mpr ⟨trivial, List.forall_mem_cons.mpr ⟨trivial, List.forall_mem_cons.mpr ⟨trivial, List.forall_mem_cons.mpr ⟨trivial, List.forall_mem_cons.mpr ⟨trivial, List.forall_mem_cons.mpr ⟨trivial, fun _ h => absurd h List.not_mem_nil⟩⟩⟩⟩⟩⟩
set_option maxRecDepth 100000 in
theorem zq_71_9 : ∀ e ∈ zm_c71_9, zm_okq 71 e.2 := List.forall_mem_cons.mpr ⟨trivial, List.forall_mem_cons.mpr ⟨trivial, List.forall_mem_cons.mpr ⟨trivial, List.forall_mem_cons.mpr ⟨trivial, List.forall_mem_cons.mpr ⟨trivial, List.forall_mem_cons.mpr ⟨trivial, fun _ h => absurd h List.not_mem_nil⟩⟩⟩⟩⟩⟩
set_option maxRecDepth 100000 in
theorem zq_71_10 : ∀ e ∈ zm_c71_10, zm_okq 71 e.2 := List.forall_mem_cons.mpr ⟨⟨_, _, _, rfl, by decide, zm_f5.1, zm_f5.2.1, zm_f5.2.2, Or.inl ⟨_, zw_720, Or.inl rfl⟩⟩, List.forall_mem_cons.mpr ⟨trivial, List.forall_mem_cons.mpr ⟨⟨_, _, _, rfl, by decide, zm_f5.1, zm_f5.2.1, zm_f5.2.2, Or.inl ⟨_, zw_728, Or.inl rfl⟩⟩, List.forall_mem_cons.mpr ⟨trivial, List.forall_mem_cons.mpr ⟨trivial, List.forall_mem_cons.mpr ⟨trivial, fun _ h => absurd h List.not_mem_nil⟩⟩⟩⟩⟩⟩
set_option maxRecDepth 100000 in
theorem zq_71_11 : ∀ e ∈ zm_c71_11, zm_okq 71 e.2 := List.forall_mem_cons.mpr ⟨trivial, List.forall_mem_cons.mpr ⟨⟨_, _, _, rfl, by decide, zm_f5.1, zm_f5.2.1, zm_f5.2.2, Or.inl ⟨_, zw_728, Or.inl rfl⟩⟩, List.forall_mem_cons.mpr ⟨trivial, List.forall_mem_cons.mpr ⟨trivial, List.forall_mem_cons.mpr ⟨⟨⟨_, _, _, rfl, by decide, zm_f5.1, zm_f5.2.1, zm_f5.2.2, Or.inl ⟨_, zw_728, Or.inl rfl⟩⟩, zm_okw_n rfl rfl⟩, List.forall_mem_cons.mpr ⟨trivial, fun _ h => absurd h List.not_mem_nil⟩⟩⟩⟩⟩⟩
set_option maxRecDepth 100000 in
theorem zq_71_12 : ∀ e ∈ zm_c71_12, zm_okq 71 e.2 := List.forall_mem_cons.mpr ⟨trivial, List.forall_mem_cons.mpr ⟨trivial, List.forall_mem_cons.mpr ⟨⟨_, _, _, rfl, by decide, zm_f5.1, zm_f5.2.1, zm_f5.2.2, Or.inl ⟨_, zw_728, Or.inl rfl⟩⟩, List.forall_mem_cons.mpr ⟨trivial, fun _ h => absurd h List.not_mem_nil⟩⟩⟩⟩
set_option maxRecDepth 100000 in
theorem zq_72_0 : ∀ e ∈ zm_c72_0, zm_okq 72 e.2 := List.forall_mem_cons.mpr ⟨trivial, List.forall_mem_cons.mpr ⟨trivial, List.forall_mem_cons.mpr ⟨trivial, List.forall_mem_cons.mpr ⟨trivial, List.forall_mem_cons.mpr ⟨trivial, List.forall_mem_cons.mpr ⟨trivial, fun _ h => absurd h List.not_mem_nil⟩⟩⟩⟩⟩⟩
set_option maxRecDepth 100000 in
theorem zq_72_1 : ∀ e ∈ zm_c72_1, zm_okq 72 e.2 := List.forall_mem_cons.mpr ⟨trivial, List.forall_mem_cons.mpr ⟨trivial, List.forall_mem_cons.mpr ⟨trivial, List.forall_mem_cons.mpr ⟨trivial, fun _ h => absurd h List.not_mem_nil⟩⟩⟩⟩
set_option maxRecDepth 100000 in
theorem zq_73_0 : ∀ e ∈ zm_c73_0, zm_okq 73 e.2 := List.forall_mem_cons.mpr ⟨trivial, List.forall_mem_cons.mpr ⟨trivial, List.forall_mem_cons.mpr ⟨trivial, List.forall_mem_cons.mpr ⟨trivial, List.forall_mem_cons.mpr ⟨trivial, List.forall_mem_cons.mpr ⟨trivial, fun _ h => absurd h List.not_mem_nil⟩⟩⟩⟩⟩⟩
set_option maxRecDepth 100000 in
theorem zq_73_1 : ∀ e ∈ zm_c73_1, zm_okq 73 e.2 := List.forall_mem_cons.mpr ⟨⟨⟨_, _, _, rfl, by decide, zm_f5.1, zm_f5.2.1, zm_f5.2.2, Or.inl ⟨_, zw_732, Or.inl rfl⟩⟩, zm_okw_n rfl rfl⟩, List.forall_mem_cons.mpr ⟨trivial, List.forall_mem_cons.mpr ⟨trivial, List.forall_mem_cons.mpr ⟨trivial, List.forall_mem_cons.mpr ⟨trivial, List.forall_mem_cons.mpr ⟨trivial, fun _ h => absurd h List.not_mem_nil⟩⟩⟩⟩⟩⟩
set_option maxRecDepth 100000 in
theorem zq_73_2 : ∀ e ∈ zm_c73_2, zm_okq 73 e.2 := List.forall_mem_cons.mpr ⟨trivial, fun _ h => absurd h List.not_mem_nil⟩
set_option maxRecDepth 100000 in
theorem zq_74_0 : ∀ e ∈ zm_c74_0, zm_okq 74 e.2 := List.forall_mem_cons.mpr ⟨trivial, List.forall_mem_cons.mpr ⟨trivial, List.forall_mem_cons.mpr ⟨⟨⟨_, _, _, rfl, by decide, zm_f5.1, zm_f5.2.1, zm_f5.2.2, Or.inl ⟨_, zw_732, Or.inl rfl⟩⟩, zm_okw_n rfl rfl⟩, List.forall_mem_cons.mpr ⟨trivial, List.forall_mem_cons.mpr ⟨trivial, fun _ h => absurd h List.not_mem_nil⟩⟩⟩⟩⟩
set_option maxRecDepth 100000 in
theorem zq_75_0 : ∀ e ∈ zm_c75_0, zm_okq 75 e.2 := List.forall_mem_cons.mpr ⟨trivial, List.forall_mem_cons.mpr ⟨⟨_, rfl, rfl, zw_853⟩, List.forall_mem_cons.mpr ⟨trivial, List.forall_mem_cons.mpr ⟨trivial, List.forall_mem_cons.mpr ⟨trivial, List.forall_mem_cons.mpr ⟨trivial, fun _ h => absurd h List.not_mem_nil⟩⟩⟩⟩⟩⟩
set_option maxRecDepth 100000 in
theorem zq_75_1 : ∀ e ∈ zm_c75_1, zm_okq 75 e.2 := List.forall_mem_cons.mpr ⟨trivial, List.forall_mem_cons.mpr ⟨trivial, List.forall_mem_cons.mpr ⟨trivial, List.forall_mem_cons.mpr ⟨trivial, List.forall_mem_cons.mpr ⟨trivial, List.forall_mem_cons.mpr ⟨trivial, fun _ h => absurd h List.not_mem_nil⟩⟩⟩⟩⟩⟩
set_option maxRecDepth 100000 in
theorem zq_75_2 : ∀ e ∈ zm_c75_2, zm_okq 75 e.2 := List.forall_mem_cons.mpr ⟨trivial, List.forall_mem_cons.mpr ⟨trivial, List.forall_mem_cons.mpr ⟨trivial, List.forall_mem_cons.mpr ⟨trivial, List.forall_mem_cons.mpr ⟨trivial, List.forall_mem_cons.mpr ⟨trivial, fun _ h => absurd h List.not_mem_nil⟩⟩⟩⟩⟩⟩
set_option maxRecDepth 100000 in
theorem zq_75_3 : ∀ e ∈ zm_c75_3, zm_okq 75 e.2 := List.forall_mem_cons.mpr ⟨trivial, List.forall_mem_cons.mpr ⟨trivial, List.forall_mem_cons.mpr ⟨trivial, List.forall_mem_cons.mpr ⟨⟨⟨_, _, _, rfl, by decide, zm_f5.1, zm_f5.2.1, zm_f5.2.2, Or.inl ⟨_, zw_730, Or.inl rfl⟩⟩, zm_okw_n rfl rfl⟩, List.forall_mem_cons.mpr ⟨trivial, List.forall_mem_cons.mpr ⟨trivial, fun _ h => absurd h List.not_mem_nil⟩⟩⟩⟩⟩⟩
set_option maxRecDepth 100000 in
theorem zq_75_4 : ∀ e ∈ zm_c75_4, zm_okq 75 e.2 := List.forall_mem_cons.mpr ⟨trivial, List.forall_mem_cons.mpr ⟨trivial, List.forall_mem_cons.mpr ⟨trivial, List.forall_mem_cons.mpr ⟨⟨_, _, _, rfl, by decide, zm_f5.1, zm_f5.2.1, zm_f5.2.2, Or.inl ⟨_, zw_730, Or.inl rfl⟩⟩, List.forall_mem_cons.mpr ⟨trivial, List.forall_mem_cons.mpr ⟨trivial, fun _ h => absurd h List.not_mem_nil⟩⟩⟩⟩⟩⟩
set_option maxRecDepth 100000 in
theorem zq_75_5 : ∀ e ∈ zm_c75_5, zm_okq 75 e.2 := List.forall_mem_cons.mpr ⟨trivial, List.forall_mem_cons.mpr ⟨trivial, List.forall_mem_cons.mpr ⟨trivial, List.forall_mem_cons.mpr ⟨trivial, List.forall_mem_cons.mpr ⟨trivial, List.forall_mem_cons.mpr ⟨trivial, fun _ h => absurd h List.not_mem_nil⟩⟩⟩⟩⟩⟩
set_option maxRecDepth 100000 in
theorem zq_75_6 : ∀ e ∈ zm_c75_6, zm_okq 75 e.2 := List.forall_mem_cons.mpr ⟨trivial, List.forall_mem_cons.mpr ⟨trivial, List.forall_mem_cons.mpr ⟨trivial, List.forall_mem_cons.mpr ⟨trivial, List.forall_mem_cons.mpr ⟨trivial, List.forall_mem_cons.mpr ⟨trivial, fun _ h => absurd h List.not_mem_nil⟩⟩⟩⟩⟩⟩
set_option maxRecDepth 100000 in
theorem zq_75_7 : ∀ e ∈ zm_c75_7, zm_okq 75 e.2 := List.forall_mem_cons.mpr ⟨trivial, List.forall_mem_cons.mpr ⟨⟨_, _, _, rfl, by decide, zm_f5.1, zm_f5.2.1, zm_f5.2.2, Or.inl ⟨_, zw_730, Or.inl rfl⟩⟩, List.forall_mem_cons.mpr ⟨⟨⟨_, _, _, rfl, by decide, zm_f5.1, zm_f5.2.1, zm_f5.2.2, Or.inl ⟨_, zw_729, Or.inl rfl⟩⟩, zm_okw_n rfl rfl⟩, List.forall_mem_cons.mpr ⟨trivial, List.forall_mem_cons.mpr ⟨⟨_, _, _, rfl, by decide, zm_f5.1, zm_f5.2.1, zm_f5.2.2, Or.inl ⟨_, zw_728, Or.inl rfl⟩⟩, List.forall_mem_cons.mpr ⟨trivial, fun _ h => absurd h List.not_mem_nil⟩⟩⟩⟩⟩⟩
set_option maxRecDepth 100000 in
theorem zq_75_8 : ∀ e ∈ zm_c75_8, zm_okq 75 e.2 := List.forall_mem_cons.mpr ⟨trivial, List.forall_mem_cons.mpr ⟨trivial, List.forall_mem_cons.mpr ⟨trivial, List.forall_mem_cons.mpr ⟨⟨_, _, _, rfl, by decide, zm_f5.1, zm_f5.2.1, zm_f5.2.2, Or.inl ⟨_, zw_720, Or.inl rfl⟩⟩, List.forall_mem_cons.mpr ⟨trivial, List.forall_mem_cons.mpr ⟨trivial, fun _ h => absurd h List.not_mem_nil⟩⟩⟩⟩⟩⟩
set_option maxRecDepth 100000 in
theorem zq_75_9 : ∀ e ∈ zm_c75_9, zm_okq 75 e.2 := List.forall_mem_cons.mpr ⟨trivial, List.forall_mem_cons.mpr ⟨trivial, List.forall_mem_cons.mpr ⟨trivial, List.forall_mem_cons.mpr ⟨trivial, List.forall_mem_cons.mpr ⟨⟨_, _, _, rfl, by decide, zm_f5.1, zm_f5.2.1, zm_f5.2.2, Or.inl ⟨_, zw_723, Or.inl rfl⟩⟩, List.forall_mem_cons.mpr ⟨trivial, fun _ h => absurd h List.not_mem_nil⟩⟩⟩⟩⟩⟩
set_option maxRecDepth 100000 in
theorem zq_75_10 : ∀ e ∈ zm_c75_10, zm_okq 75 e.2 := List.forall_mem_cons.mpr ⟨trivial, List.forall_mem_cons.mpr ⟨trivial, List.forall_mem_cons.mpr ⟨trivial, List.forall_mem_cons.mpr ⟨trivial, List.forall_mem_cons.mpr ⟨trivial, List.forall_mem_cons.mpr ⟨⟨_, _, _, rfl, by decide, zm_f5.1, zm_f5.2.1, zm_f5.2.2, Or.inl ⟨_, zw_725, Or.inl rfl⟩⟩, fun _ h => absurd h List.not_mem_nil⟩⟩⟩⟩⟩⟩
set_option maxRecDepth 100000 in
theorem zq_75_11 : ∀ e ∈ zm_c75_11, zm_okq 75 e.2 := List.forall_mem_cons.mpr ⟨trivial, List.forall_mem_cons.mpr ⟨trivial, List.forall_mem_cons.mpr ⟨trivial, List.forall_mem_cons.mpr ⟨trivial, List.forall_mem_cons.mpr ⟨trivial, List.forall_mem_cons.mpr ⟨trivial, fun _ h => absurd h List.not_mem_nil⟩⟩⟩⟩⟩⟩
set_option maxRecDepth 100000 in
theorem zq_75_12 : ∀ e ∈ zm_c75_12, zm_okq 75 e.2 := List.forall_mem_cons.mpr ⟨trivial, List.forall_mem_cons.mpr ⟨trivial, List.forall_mem_cons.mpr ⟨trivial, List.forall_mem_cons.mpr ⟨trivial, List.forall_mem_cons.mpr ⟨trivial, List.forall_mem_cons.mpr ⟨⟨_, _, _, rfl, by decide, zm_f5.1, zm_f5.2.1, zm_f5.2.2, Or.inl ⟨_, zw_724, Or.inl rfl⟩⟩, fun _ h => absurd h List.not_mem_nil⟩⟩⟩⟩⟩⟩
set_option maxRecDepth 100000 in
theorem zq_75_13 : ∀ e ∈ zm_c75_13, zm_okq 75 e.2 := List.forall_mem_cons.mpr ⟨trivial, List.forall_mem_cons.mpr ⟨trivial, List.forall_mem_cons.mpr ⟨trivial, List.forall_mem_cons.mpr ⟨trivial, List.forall_mem_cons.mpr ⟨trivial, List.forall_mem_cons.mpr ⟨trivial, fun _ h => absurd h List.not_mem_nil⟩⟩⟩⟩⟩⟩
set_option maxRecDepth 100000 in
theorem zq_75_14 : ∀ e ∈ zm_c75_14, zm_okq 75 e.2 := List.forall_mem_cons.mpr ⟨trivial, List.forall_mem_cons.mpr ⟨trivial, List.forall_mem_cons.mpr ⟨trivial, List.forall_mem_cons.mpr ⟨trivial, List.forall_mem_cons.mpr ⟨trivial, List.forall_mem_cons.mpr ⟨trivial, fun _ h => absurd h List.not_mem_nil⟩⟩⟩⟩⟩⟩
set_option maxRecDepth 100000 in
theorem zq_75_15 : ∀ e ∈ zm_c75_15, zm_okq 75 e.2 := List.forall_mem_cons.mpr ⟨⟨_, _, _, rfl, by decide, zm_f5.1, zm_f5.2.1, zm_f5.2.2, Or.inl ⟨_, zw_727, Or.inl rfl⟩⟩, List.forall_mem_cons.mpr ⟨trivial, List.forall_mem_cons.mpr ⟨trivial, List.forall_mem_cons.mpr ⟨trivial, List.forall_mem_cons.mpr ⟨trivial, List.forall_mem_cons.mpr ⟨trivial, fun _ h => absurd h List.not_mem_nil⟩⟩⟩⟩⟩⟩
set_option maxRecDepth 100000 in
theorem zq_75_16 : ∀ e ∈ zm_c75_16, zm_okq 75 e.2 := List.forall_mem_cons.mpr ⟨⟨⟨_, _, _, rfl, by decide, zm_f5.1, zm_f5.2.1, zm_f5.2.2, Or.inl ⟨_, zw_728, Or.inl rfl⟩⟩, zm_okw_n rfl rfl⟩, List.forall_mem_cons.mpr ⟨trivial, List.forall_mem_cons.mpr ⟨trivial, List.forall_mem_cons.mpr ⟨trivial, List.forall_mem_cons.mpr ⟨trivial, List.forall_mem_cons.mpr ⟨trivial, fun _ h => absurd h List.not_mem_nil⟩⟩⟩⟩⟩⟩
set_option maxRecDepth 100000 in
theorem zq_75_17 : ∀ e ∈ zm_c75_17, zm_okq 75 e.2 := List.forall_mem_cons.mpr ⟨trivial, List.forall_mem_cons.mpr ⟨trivial, List.forall_mem_cons.mpr ⟨trivial, List.forall_mem_cons.mpr ⟨trivial, List.forall_mem_cons.mpr ⟨trivial, List.forall_mem_cons.mpr ⟨trivial, fun _ h => absurd h List.not_mem_nil⟩⟩⟩⟩⟩⟩
set_option maxRecDepth 100000 in
theorem zq_75_18 : ∀ e ∈ zm_c75_18, zm_okq 75 e.2 := List.forall_mem_cons.mpr ⟨trivial, fun _ h => absurd h List.not_mem_nil⟩
set_option maxRecDepth 100000 in
theorem zq_76_0 : ∀ e ∈ zm_c76_0, zm_okq 76 e.2 := List.forall_mem_cons.mpr ⟨trivial, List.forall_mem_cons.mpr ⟨trivial, List.forall_mem_cons.mpr ⟨trivial, List.forall_mem_cons.mpr ⟨trivial, List.forall_mem_cons.mpr ⟨trivial, List.forall_mem_cons.mpr ⟨trivial, fun _ h => absurd h List.not_mem_nil⟩⟩⟩⟩⟩⟩
set_option maxRecDepth 100000 in
theorem zq_76_1 : ∀ e ∈ zm_c76_1, zm_okq 76 e.2 := List.forall_mem_cons.mpr ⟨trivial, List.forall_mem_cons.mpr ⟨trivial, List.forall_mem_cons.mpr ⟨trivial, List.forall_mem_cons.mpr ⟨trivial, List.forall_mem_cons.mpr ⟨trivial, List.forall_mem_cons.mpr ⟨trivial, fun _ h => absurd h List.not_mem_nil⟩⟩⟩⟩⟩⟩
set_option maxRecDepth 100000 in
theorem zq_76_2 : ∀ e ∈ zm_c76_2, zm_okq 76 e.2 := List.forall_mem_cons.mpr ⟨trivial, List.forall_mem_cons.mpr ⟨trivial, List.forall_mem_cons.mpr ⟨⟨_, _, _, rfl, by decide, zm_f5.1, zm_f5.2.1, zm_f5.2.2, Or.inl ⟨_, zw_730, Or.inl rfl⟩⟩, List.forall_mem_cons.mpr ⟨trivial, List.forall_mem_cons.mpr ⟨trivial, List.forall_mem_cons.mpr ⟨⟨⟨_, _, _, rfl, by decide, zm_f5.1, zm_f5.2.1, zm_f5.2.2, Or.inl ⟨_, zw_730, Or.inl rfl⟩⟩, zm_okw_n rfl rfl⟩, fun _ h => absurd h List.not_mem_nil⟩⟩⟩⟩⟩⟩
set_option maxRecDepth 100000 in
theorem zq_76_3 : ∀ e ∈ zm_c76_3, zm_okq 76 e.2 := List.forall_mem_cons.mpr ⟨trivial, List.forall_mem_cons.mpr ⟨trivial, List.forall_mem_cons.mpr ⟨trivial, List.forall_mem_cons.mpr ⟨trivial, List.forall_mem_cons.mpr ⟨trivial, List.forall_mem_cons.mpr ⟨trivial, fun _ h => absurd h List.not_mem_nil⟩⟩⟩⟩⟩⟩
set_option maxRecDepth 100000 in
theorem zq_76_4 : ∀ e ∈ zm_c76_4, zm_okq 76 e.2 := List.forall_mem_cons.mpr ⟨trivial, List.forall_mem_cons.mpr ⟨trivial, List.forall_mem_cons.mpr ⟨trivial, List.forall_mem_cons.mpr ⟨trivial, List.forall_mem_cons.mpr ⟨trivial, List.forall_mem_cons.mpr ⟨trivial, fun _ h => absurd h List.not_mem_nil⟩⟩⟩⟩⟩⟩
set_option maxRecDepth 100000 in
theorem zq_76_5 : ∀ e ∈ zm_c76_5, zm_okq 76 e.2 := List.forall_mem_cons.mpr ⟨trivial, List.forall_mem_cons.mpr ⟨trivial, List.forall_mem_cons.mpr ⟨trivial, List.forall_mem_cons.mpr ⟨trivial, List.forall_mem_cons.mpr ⟨trivial, List.forall_mem_cons.mpr ⟨trivial, fun _ h => absurd h List.not_mem_nil⟩⟩⟩⟩⟩⟩
set_option maxRecDepth 100000 in
theorem zq_76_6 : ∀ e ∈ zm_c76_6, zm_okq 76 e.2 := List.forall_mem_cons.mpr ⟨trivial, List.forall_mem_cons.mpr ⟨trivial, List.forall_mem_cons.mpr ⟨trivial, List.forall_mem_cons.mpr ⟨trivial, List.forall_mem_cons.mpr ⟨trivial, List.forall_mem_cons.mpr ⟨trivial, fun _ h => absurd h List.not_mem_nil⟩⟩⟩⟩⟩⟩
set_option maxRecDepth 100000 in
theorem zq_76_7 : ∀ e ∈ zm_c76_7, zm_okq 76 e.2 := List.forall_mem_cons.mpr ⟨trivial, List.forall_mem_cons.mpr ⟨trivial, List.forall_mem_cons.mpr ⟨trivial, List.forall_mem_cons.mpr ⟨trivial, List.forall_mem_cons.mpr ⟨trivial, List.forall_mem_cons.mpr ⟨trivial, fun _ h => absurd h List.not_mem_nil⟩⟩⟩⟩⟩⟩
set_option maxRecDepth 100000 in
theorem zq_76_8 : ∀ e ∈ zm_c76_8, zm_okq 76 e.2 := List.forall_mem_cons.mpr ⟨trivial, List.forall_mem_cons.mpr ⟨trivial, List.forall_mem_cons.mpr ⟨trivial, List.forall_mem_cons.mpr ⟨trivial, List.forall_mem_cons.mpr ⟨trivial, List.forall_mem_cons.mpr ⟨⟨_, _, _, rfl, by decide, zm_f5.1, zm_f5.2.1, zm_f5.2.2, Or.inl ⟨_, zw_730, Or.inl rfl⟩⟩, fun _ h => absurd h List.not_mem_nil⟩⟩⟩⟩⟩⟩
set_option maxRecDepth 100000 in
theorem zq_76_9 : ∀ e ∈ zm_c76_9, zm_okq 76 e.2 := List.forall_mem_cons.mpr ⟨trivial, List.forall_mem_cons.mpr ⟨trivial, List.forall_mem_cons.mpr ⟨⟨⟨_, _, _, rfl, by decide, zm_f5.1, zm_f5.2.1, zm_f5.2.2, Or.inl ⟨_, zw_730, Or.inl rfl⟩⟩, zm_okw_n rfl rfl⟩, List.forall_mem_cons.mpr ⟨trivial, List.forall_mem_cons.mpr ⟨trivial, List.forall_mem_cons.mpr ⟨trivial, fun _ h => absurd h List.not_mem_nil⟩⟩⟩⟩⟩⟩
set_option maxRecDepth 100000 in
theorem zq_76_10 : ∀ e ∈ zm_c76_10, zm_okq 76 e.2 := List.forall_mem_cons.mpr ⟨trivial, List.forall_mem_cons.mpr ⟨trivial, List.forall_mem_cons.mpr ⟨trivial, List.forall_mem_cons.mpr ⟨trivial, List.forall_mem_cons.mpr ⟨trivial, List.forall_mem_cons.mpr ⟨trivial, fun _ h => absurd h List.not_mem_nil⟩⟩⟩⟩⟩⟩
set_option maxRecDepth 100000 in
theorem zq_76_11 : ∀ e ∈ zm_c76_11, zm_okq 76 e.2 := List.forall_mem_cons.mpr ⟨⟨_, _, _, rfl, by decide, zm_f5.1, zm_f5.2.1, zm_f5.2.2, Or.inl ⟨_, zw_730, Or.inl rfl⟩⟩, List.forall_mem_cons.mpr ⟨trivial, List.forall_mem_cons.mpr ⟨trivial, List.forall_mem_cons.mpr ⟨⟨⟨_, _, _, rfl, by decide, zm_f5.1, zm_f5.2.1, zm_f5.2.2, Or.inl ⟨_, zw_730, Or.inl rfl⟩⟩, zm_okw_n rfl rfl⟩, List.forall_mem_cons.mpr ⟨trivial, List.forall_mem_cons.mpr ⟨trivial, fun _ h => absurd h List.not_mem_nil⟩⟩⟩⟩⟩⟩
set_option maxRecDepth 100000 in
theorem zq_77_0 : ∀ e ∈ zm_c77_0, zm_okq 77 e.2 := List.forall_mem_cons.mpr ⟨trivial, List.forall_mem_cons.mpr ⟨⟨_, _, _, rfl, by decide, zm_f5.1, zm_f5.2.1, zm_f5.2.2, Or.inl ⟨_, zw_730, Or.inl rfl⟩⟩, List.forall_mem_cons.mpr ⟨trivial, List.forall_mem_cons.mpr ⟨⟨_, _, _, rfl, by decide, zm_f5.1, zm_f5.2.1, zm_f5.2.2, Or.inl ⟨_, zw_728, Or.inl rfl⟩⟩, List.forall_mem_cons.mpr ⟨trivial, List.forall_mem_cons.mpr ⟨trivial, fun _ h => absurd h List.not_mem_nil⟩⟩⟩⟩⟩⟩
set_option maxRecDepth 100000 in
theorem zq_77_1 : ∀ e ∈ zm_c77_1, zm_okq 77 e.2 := List.forall_mem_cons.mpr ⟨⟨_, _, _, rfl, by decide, zm_f5.1, zm_f5.2.1, zm_f5.2.2, Or.inl ⟨_, zw_720, Or.inl rfl⟩⟩, List.forall_mem_cons.mpr ⟨trivial, List.forall_mem_cons.mpr ⟨⟨_, _, _, rfl, by decide, zm_f5.1, zm_f5.2.1, zm_f5.2.2, Or.inl ⟨_, zw_730, Or.inl rfl⟩⟩, List.forall_mem_cons.mpr ⟨trivial, List.forall_mem_cons.mpr ⟨trivial, List.forall_mem_cons.mpr ⟨trivial, fun _ h => absurd h List.not_mem_nil⟩⟩⟩⟩⟩⟩
set_option maxRecDepth 100000 in
theorem zq_77_2 : ∀ e ∈ zm_c77_2, zm_okq 77 e.2 := List.forall_mem_cons.mpr ⟨trivial, fun _ h => absurd h List.not_mem_nil⟩
set_option maxRecDepth 100000 in
theorem zq_78_0 : ∀ e ∈ zm_c78_0, zm_okq 78 e.2 := List.forall_mem_cons.mpr ⟨trivial, List.forall_mem_cons.mpr ⟨trivial, List.forall_mem_cons.mpr ⟨trivial, List.forall_mem_cons.mpr ⟨⟨_, _, _, rfl, by decide, zm_f5.1, zm_f5.2.1, zm_f5.2.2, Or.inl ⟨_, zw_726, Or.inl rfl⟩⟩, List.forall_mem_cons.mpr ⟨trivial, List.forall_mem_cons.mpr ⟨trivial, fun _ h => absurd h List.not_mem_nil⟩⟩⟩⟩⟩⟩
set_option maxRecDepth 100000 in
theorem zq_78_1 : ∀ e ∈ zm_c78_1, zm_okq 78 e.2 := List.forall_mem_cons.mpr ⟨trivial, List.forall_mem_cons.mpr ⟨trivial, List.forall_mem_cons.mpr ⟨trivial, List.forall_mem_cons.mpr ⟨trivial, List.forall_mem_cons.mpr ⟨trivial, List.forall_mem_cons.mpr ⟨trivial, fun _ h => absurd h List.not_mem_nil⟩⟩⟩⟩⟩⟩
set_option maxRecDepth 100000 in
theorem zq_78_2 : ∀ e ∈ zm_c78_2, zm_okq 78 e.2 := List.forall_mem_cons.mpr ⟨trivial, List.forall_mem_cons.mpr ⟨trivial, List.forall_mem_cons.mpr ⟨trivial, List.forall_mem_cons.mpr ⟨trivial, List.forall_mem_cons.mpr ⟨trivial, List.forall_mem_cons.mpr ⟨trivial, fun _ h => absurd h List.not_mem_nil⟩⟩⟩⟩⟩⟩
set_option maxRecDepth 100000 in
theorem zq_78_3 : ∀ e ∈ zm_c78_3, zm_okq 78 e.2 := List.forall_mem_cons.mpr ⟨trivial, List.forall_mem_cons.mpr ⟨trivial, List.forall_mem_cons.mpr ⟨trivial, List.forall_mem_cons.mpr ⟨trivial, List.forall_mem_cons.mpr ⟨trivial, List.forall_mem_cons.mpr ⟨trivial, fun _ h => absurd h List.not_mem_nil⟩⟩⟩⟩⟩⟩
set_option maxRecDepth 100000 in
theorem zq_78_4 : ∀ e ∈ zm_c78_4, zm_okq 78 e.2 := List.forall_mem_cons.mpr ⟨trivial, List.forall_mem_cons.mpr ⟨trivial, List.forall_mem_cons.mpr ⟨trivial, List.forall_mem_cons.mpr ⟨trivial, List.forall_mem_cons.mpr ⟨trivial, List.forall_mem_cons.mpr ⟨trivial, fun _ h => absurd h List.not_mem_nil⟩⟩⟩⟩⟩⟩
set_option maxRecDepth 100000 in
theorem zq_78_5 : ∀ e ∈ zm_c78_5, zm_okq 78 e.2 := List.forall_mem_cons.mpr ⟨trivial, List.forall_mem_cons.mpr ⟨trivial, List.forall_mem_cons.mpr ⟨trivial, List.forall_mem_cons.mpr ⟨trivial, List.forall_mem_cons.mpr ⟨trivial, List.forall_mem_cons.mpr ⟨trivial, fun _ h => absurd h List.not_mem_nil⟩⟩⟩⟩⟩⟩
set_option maxRecDepth 100000 in
theorem zq_78_6 : ∀ e ∈ zm_c78_6, zm_okq 78 e.2 := List.forall_mem_cons.mpr ⟨trivial, List.forall_mem_cons.mpr ⟨trivial, List.forall_mem_cons.mpr ⟨trivial, List.forall_mem_cons.mpr ⟨⟨_, _, _, rfl, by decide, zm_f5.1, zm_f5.2.1, zm_f5.2.2, Or.inl ⟨_, zw_730, Or.inl rfl⟩⟩, List.forall_mem_cons.mpr ⟨trivial, List.forall_mem_cons.mpr ⟨trivial, fun _ h => absurd h List.not_mem_nil⟩⟩⟩⟩⟩⟩
set_option maxRecDepth 100000 in
theorem zq_78_7 : ∀ e ∈ zm_c78_7, zm_okq 78 e.2 := List.forall_mem_cons.mpr ⟨⟨⟨_, _, _, rfl, by decide, zm_f5.1, zm_f5.2.1, zm_f5.2.2, Or.inl ⟨_, zw_730, Or.inl rfl⟩⟩, zm_okw_n rfl rfl⟩, List.forall_mem_cons.mpr ⟨trivial, List.forall_mem_cons.mpr ⟨⟨_, _, _, rfl, by decide, zm_f5.1, zm_f5.2.1, zm_f5.2.2, Or.inl ⟨_, zw_726, Or.inl rfl⟩⟩, List.forall_mem_cons.mpr ⟨trivial, List.forall_mem_cons.mpr ⟨trivial, List.forall_mem_cons.mpr ⟨trivial, fun _ h => absurd h List.not_mem_nil⟩⟩⟩⟩⟩⟩
set_option maxRecDepth 100000 in
theorem zq_78_8 : ∀ e ∈ zm_c78_8, zm_okq 78 e.2 := List.forall_mem_cons.mpr ⟨trivial, List.forall_mem_cons.mpr ⟨trivial, List.forall_mem_cons.mpr ⟨trivial, List.forall_mem_cons.mpr ⟨trivial, List.forall_mem_cons.mpr ⟨trivial, List.forall_mem_cons.mpr ⟨trivial, fun _ h => absurd h List.not_mem_nil⟩⟩⟩⟩⟩⟩
set_option maxRecDepth 100000 in
theorem zq_78_9 : ∀ e ∈ zm_c78_9, zm_okq 78 e.2 := List.forall_mem_cons.mpr ⟨trivial, List.forall_mem_cons.mpr ⟨⟨_, _, _, rfl, by decide, zm_f5.1, zm_f5.2.1, zm_f5.2.2, Or.inl ⟨_, zw_726, Or.inl rfl⟩⟩, List.forall_mem_cons.mpr ⟨trivial, List.forall_mem_cons.mpr ⟨trivial, List.forall_mem_cons.mpr ⟨trivial, List.forall_mem_cons.mpr ⟨trivial, fun _ h => absurd h List.not_mem_nil⟩⟩⟩⟩⟩⟩
set_option maxRecDepth 100000 in
theorem zq_78_10 : ∀ e ∈ zm_c78_10, zm_okq 78 e.2 := List.forall_mem_cons.mpr ⟨trivial, List.forall_mem_cons.mpr ⟨trivial, List.forall_mem_cons.mpr ⟨⟨_, _, _, rfl, by decide, zm_f5.1, zm_f5.2.1, zm_f5.2.2, Or.inl ⟨_, zw_726, Or.inl rfl⟩⟩, List.forall_mem_cons.mpr ⟨trivial, List.forall_mem_cons.mpr ⟨trivial, List.forall_mem_cons.mpr ⟨trivial, fun _ h => absurd h List.not_mem_nil⟩⟩⟩⟩⟩⟩
set_option maxRecDepth 100000 in
theorem zq_78_11 : ∀ e ∈ zm_c78_11, zm_okq 78 e.2 := List.forall_mem_cons.mpr ⟨trivial, List.forall_mem_cons.mpr ⟨trivial, List.forall_mem_cons.mpr ⟨trivial, List.forall_mem_cons.mpr ⟨trivial, List.forall_mem_cons.mpr ⟨⟨_, _, _, rfl, by decide, zm_f5.1, zm_f5.2.1, zm_f5.2.2, Or.inl ⟨_, zw_730, Or.inl rfl⟩⟩, List.forall_mem_cons.mpr ⟨trivial, fun _ h => absurd h List.not_mem_nil⟩⟩⟩⟩⟩⟩
set_option maxRecDepth 100000 in
theorem zq_78_12 : ∀ e ∈ zm_c78_12, zm_okq 78 e.2 := List.forall_mem_cons.mpr ⟨⟨_, _, _, rfl, by decide, zm_f5.1, zm_f5.2.1, zm_f5.2.2, Or.inl ⟨_, zw_728, Or.inl rfl⟩⟩, List.forall_mem_cons.mpr ⟨trivial, List.forall_mem_cons.mpr ⟨trivial, List.forall_mem_cons.mpr ⟨trivial, List.forall_mem_cons.mpr ⟨trivial, List.forall_mem_cons.mpr ⟨trivial, fun _ h => absurd h List.not_mem_nil⟩⟩⟩⟩⟩⟩
set_option maxRecDepth 100000 in
theorem zq_79_0 : ∀ e ∈ zm_c79_0, zm_okq 79 e.2 := List.forall_mem_cons.mpr ⟨trivial, List.forall_mem_cons.mpr ⟨trivial, List.forall_mem_cons.mpr ⟨trivial, List.forall_mem_cons.mpr ⟨trivial, List.forall_mem_cons.mpr ⟨trivial, List.forall_mem_cons.mpr ⟨trivial, fun _ h => absurd h List.not_mem_nil⟩⟩⟩⟩⟩⟩
set_option maxRecDepth 100000 in
theorem zq_79_1 : ∀ e ∈ zm_c79_1, zm_okq 79 e.2 := List.forall_mem_cons.mpr ⟨trivial, List.forall_mem_cons.mpr ⟨trivial, List.forall_mem_cons.mpr ⟨trivial, List.forall_mem_cons.mpr ⟨trivial, List.forall_mem_cons.mpr ⟨trivial, List.forall_mem_cons.mpr ⟨trivial, fun _ h => absurd h List.not_mem_nil⟩⟩⟩⟩⟩⟩
set_option maxRecDepth 100000 in
theorem zq_79_2 : ∀ e ∈ zm_c79_2, zm_okq 79 e.2 := List.forall_mem_cons.mpr ⟨trivial, List.forall_mem_cons.mpr ⟨trivial, List.forall_mem_cons.mpr ⟨trivial, List.forall_mem_cons.mpr ⟨trivial, List.forall_mem_cons.mpr ⟨trivial, List.forall_mem_cons.mpr ⟨trivial, fun _ h => absurd h List.not_mem_nil⟩⟩⟩⟩⟩⟩
set_option maxRecDepth 100000 in
theorem zq_79_3 : ∀ e ∈ zm_c79_3, zm_okq 79 e.2 := List.forall_mem_cons.mpr ⟨trivial, List.forall_mem_cons.mpr ⟨trivial, List.forall_mem_cons.mpr ⟨trivial, List.forall_mem_cons.mpr ⟨trivial, List.forall_mem_cons.mpr ⟨trivial, List.forall_mem_cons.mpr ⟨trivial, fun _ h => absurd h List.not_mem_nil⟩⟩⟩⟩⟩⟩
set_option maxRecDepth 100000 in
theorem zq_79_4 : ∀ e ∈ zm_c79_4, zm_okq 79 e.2 := List.forall_mem_cons.mpr ⟨trivial, List.forall_mem_cons.mpr ⟨trivial, List.forall_mem_cons.mpr ⟨trivial, List.forall_mem_cons.mpr ⟨trivial, List.forall_mem_cons.mpr ⟨trivial, List.forall_mem_cons.mpr ⟨trivial, fun _ h => absurd h List.not_mem_nil⟩⟩⟩⟩⟩⟩
set_option maxRecDepth 100000 in
theorem zq_79_5 : ∀ e ∈ zm_c79_5, zm_okq 79 e.2 := List.forall_mem_cons.mpr ⟨trivial, List.forall_mem_cons.mpr ⟨trivial, List.forall_mem_cons.mpr ⟨trivial, List.forall_mem_cons.mpr ⟨trivial, List.forall_mem_cons.mpr ⟨trivial, List.forall_mem_cons.mpr ⟨trivial, fun _ h => absurd h List.not_mem_nil⟩⟩⟩⟩⟩⟩
set_option maxRecDepth 100000 in
theorem zq_79_6 : ∀ e ∈ zm_c79_6, zm_okq 79 e.2 := List.forall_mem_cons.mpr ⟨trivial, List.forall_mem_cons.mpr ⟨trivial, List.forall_mem_cons.mpr ⟨trivial, List.forall_mem_cons.mpr ⟨trivial, List.forall_mem_cons.mpr ⟨trivial, List.forall_mem_cons.mpr ⟨trivial, fun _ h => absurd h List.not_mem_nil⟩⟩⟩⟩⟩⟩
set_option maxRecDepth 100000 in
theorem zq_79_7 : ∀ e ∈ zm_c79_7, zm_okq 79 e.2 := List.forall_mem_cons.mpr ⟨trivial, List.forall_mem_cons.mpr ⟨trivial, List.forall_mem_cons.mpr ⟨trivial, List.forall_mem_cons.mpr ⟨trivial, List.forall_mem_cons.mpr ⟨trivial, List.forall_mem_cons.mpr ⟨trivial, fun _ h => absurd h List.not_mem_nil⟩⟩⟩⟩⟩⟩
set_option maxRecDepth 100000 in
theorem zq_79_8 : ∀ e ∈ zm_c79_8, zm_okq 79 e.2 := List.forall_mem_cons.mpr ⟨trivial, List.forall_mem_cons.mpr ⟨trivial, List.forall_mem_cons.mpr ⟨trivial, List.forall_mem_cons.mpr ⟨trivial, List.forall_mem_cons.mpr ⟨trivial, List.forall_mem_cons.mpr ⟨trivial, fun _ h => absurd h List.not_mem_nil⟩⟩⟩⟩⟩⟩
set_option maxRecDepth 100000 in
theorem zq_79_9 : ∀ e ∈ zm_c79_9, zm_okq 79 e.2 := List.forall_mem_cons.mpr ⟨trivial, List.forall_mem_cons.mpr ⟨trivial, List.forall_mem_cons.mpr ⟨trivial, List.forall_mem_cons.mpr ⟨trivial, List.forall_mem_cons.mpr ⟨trivial, List.forall_mem_cons.mpr ⟨trivial, fun _ h => absurd h List.not_mem_nil⟩⟩⟩⟩⟩⟩
set_option maxRecDepth 100000 in
theorem zq_79_10 : ∀ e ∈ zm_c79_10, zm_okq 79 e.2 := List.forall_mem_cons.mpr ⟨trivial, List.forall_mem_cons.mpr ⟨trivial, List.forall_mem_cons.mpr ⟨trivial, List.forall_mem_cons.mpr ⟨trivial, List.forall_mem_cons.mpr ⟨trivial, List.forall_mem_cons.mpr ⟨trivial, fun _ h => absurd h List.not_mem_nil⟩⟩⟩⟩⟩⟩
set_option maxRecDepth 100000 in
theorem zq_79_11 : ∀ e ∈ zm_c79_11, zm_okq 79 e.2 := List.forall_mem_cons.mpr ⟨trivial, fun _ h => absurd h List.not_mem_nil⟩
set_option maxRecDepth 100000 in
theorem zq_80_0 : ∀ e ∈ zm_c80_0, zm_okq 80 e.2 := List.forall_mem_cons.mpr ⟨trivial, List.forall_mem_cons.mpr ⟨⟨_, _, _, rfl, by decide, zm_f5.1, zm_f5.2.1, zm_f5.2.2, Or.inl ⟨_, zw_731, Or.inl rfl⟩⟩, List.forall_mem_cons.mpr ⟨trivial, List.forall_mem_cons.mpr ⟨trivial, List.forall_mem_cons.mpr ⟨trivial, List.forall_mem_cons.mpr ⟨trivial, fun _ h => absurd h List.not_mem_nil⟩⟩⟩⟩⟩⟩
set_option maxRecDepth 100000 in
theorem zq_80_1 : ∀ e ∈ zm_c80_1, zm_okq 80 e.2 := List.forall_mem_cons.mpr ⟨trivial, List.forall_mem_cons.mpr ⟨⟨_, _, _, rfl, by decide, zm_f5.1, zm_f5.2.1, zm_f5.2.2, Or.inl ⟨_, zw_728, Or.inl rfl⟩⟩, List.forall_mem_cons.mpr ⟨trivial, List.forall_mem_cons.mpr ⟨trivial, List.forall_mem_cons.mpr ⟨⟨_, _, _, rfl, by decide, zm_f5.1, zm_f5.2.1, zm_f5.2.2, Or.inl ⟨_, zw_721, Or.inl rfl⟩⟩, List.forall_mem_cons.mpr ⟨trivial, fun _ h => absurd h List.not_mem_nil⟩⟩⟩⟩⟩⟩
set_option maxRecDepth 100000 in
theorem zq_80_2 : ∀ e ∈ zm_c80_2, zm_okq 80 e.2 := List.forall_mem_cons.mpr ⟨⟨_, _, _, rfl, by decide, zm_f5.1, zm_f5.2.1, zm_f5.2.2, Or.inl ⟨_, zw_731, Or.inl rfl⟩⟩, List.forall_mem_cons.mpr ⟨trivial, List.forall_mem_cons.mpr ⟨⟨_, _, _, rfl, by decide, zm_f5.1, zm_f5.2.1, zm_f5.2.2, Or.inl ⟨_, zw_720, Or.inl rfl⟩⟩, List.forall_mem_cons.mpr ⟨trivial, List.forall_mem_cons.mpr ⟨trivial, List.forall_mem_cons.mpr ⟨trivial, fun _ h => absurd h List.not_mem_nil⟩⟩⟩⟩⟩⟩
set_option maxRecDepth 100000 in
theorem zq_80_3 : ∀ e ∈ zm_c80_3, zm_okq 80 e.2 := List.forall_mem_cons.mpr ⟨trivial, List.forall_mem_cons.mpr ⟨trivial, List.forall_mem_cons.mpr ⟨⟨_, _, _, rfl, by decide, zm_f5.1, zm_f5.2.1, zm_f5.2.2, Or.inl ⟨_, zw_731, Or.inl rfl⟩⟩, List.forall_mem_cons.mpr ⟨trivial, List.forall_mem_cons.mpr ⟨trivial, List.forall_mem_cons.mpr ⟨⟨⟨_, _, _, rfl, by decide, zm_f5.1, zm_f5.2.1, zm_f5.2.2, Or.inl ⟨_, zw_731, Or.inl rfl⟩⟩, zm_okw_n rfl rfl⟩, fun _ h => absurd h List.not_mem_nil⟩⟩⟩⟩⟩⟩
set_option maxRecDepth 100000 in
theorem zq_80_4 : ∀ e ∈ zm_c80_4, zm_okq 80 e.2 := List.forall_mem_cons.mpr ⟨trivial, List.forall_mem_cons.mpr ⟨trivial, List.forall_mem_cons.mpr ⟨trivial, List.forall_mem_cons.mpr ⟨trivial, fun _ h => absurd h List.not_mem_nil⟩⟩⟩⟩
set_option maxRecDepth 100000 in
theorem zq_81_0 : ∀ e ∈ zm_c81_0, zm_okq 81 e.2 := List.forall_mem_cons.mpr ⟨trivial, List.forall_mem_cons.mpr ⟨trivial, List.forall_mem_cons.mpr ⟨⟨⟨_, _, _, rfl, by decide, zm_f5.1, zm_f5.2.1, zm_f5.2.2, Or.inl ⟨_, zw_730, Or.inl rfl⟩⟩, zm_okw_n rfl rfl⟩, List.forall_mem_cons.mpr ⟨trivial, List.forall_mem_cons.mpr ⟨trivial, List.forall_mem_cons.mpr ⟨trivial, fun _ h => absurd h List.not_mem_nil⟩⟩⟩⟩⟩⟩
set_option maxRecDepth 100000 in
theorem zq_81_1 : ∀ e ∈ zm_c81_1, zm_okq 81 e.2 := List.forall_mem_cons.mpr ⟨trivial, List.forall_mem_cons.mpr ⟨trivial, List.forall_mem_cons.mpr ⟨trivial, List.forall_mem_cons.mpr ⟨trivial, List.forall_mem_cons.mpr ⟨trivial, List.forall_mem_cons.mpr ⟨⟨_, _, _, rfl, by decide, zm_f5.1, zm_f5.2.1, zm_f5.2.2, Or.inl ⟨_, zw_730, Or.inl rfl⟩⟩, fun _ h => absurd h List.not_mem_nil⟩⟩⟩⟩⟩⟩
set_option maxRecDepth 100000 in
theorem zq_81_2 : ∀ e ∈ zm_c81_2, zm_okq 81 e.2 := List.forall_mem_cons.mpr ⟨⟨⟨_, _, _, rfl, by decide, zm_f5.1, zm_f5.2.1, zm_f5.2.2, Or.inl ⟨_, zw_729, Or.inl rfl⟩⟩, zm_okw_n rfl rfl⟩, List.forall_mem_cons.mpr ⟨trivial, List.forall_mem_cons.mpr ⟨trivial, List.forall_mem_cons.mpr ⟨trivial, List.forall_mem_cons.mpr ⟨trivial, List.forall_mem_cons.mpr ⟨trivial, fun _ h => absurd h List.not_mem_nil⟩⟩⟩⟩⟩⟩
set_option maxRecDepth 100000 in
theorem zq_81_3 : ∀ e ∈ zm_c81_3, zm_okq 81 e.2 := List.forall_mem_cons.mpr ⟨trivial, List.forall_mem_cons.mpr ⟨⟨⟨_, _, _, rfl, by decide, zm_f5.1, zm_f5.2.1, zm_f5.2.2, Or.inl ⟨_, zw_728, Or.inl rfl⟩⟩, zm_okw_n rfl rfl⟩, List.forall_mem_cons.mpr ⟨trivial, List.forall_mem_cons.mpr ⟨trivial, List.forall_mem_cons.mpr ⟨trivial, List.forall_mem_cons.mpr ⟨trivial, fun _ h => absurd h List.not_mem_nil⟩⟩⟩⟩⟩⟩
set_option maxRecDepth 100000 in
theorem zq_81_4 : ∀ e ∈ zm_c81_4, zm_okq 81 e.2 := List.forall_mem_cons.mpr ⟨trivial, List.forall_mem_cons.mpr ⟨trivial, List.forall_mem_cons.mpr ⟨trivial, List.forall_mem_cons.mpr ⟨trivial, List.forall_mem_cons.mpr ⟨trivial, List.forall_mem_cons.mpr ⟨trivial, fun _ h => absurd h List.not_mem_nil⟩⟩⟩⟩⟩⟩
set_option maxRecDepth 100000 in
theorem zq_81_5 : ∀ e ∈ zm_c81_5, zm_okq 81 e.2 := List.forall_mem_cons.mpr ⟨⟨⟨_, _, _, rfl, by decide, zm_f5.1, zm_f5.2.1, zm_f5.2.2, Or.inl ⟨_, zw_728, Or.inl rfl⟩⟩, zm_okw_n rfl rfl⟩, List.forall_mem_cons.mpr ⟨trivial, List.forall_mem_cons.mpr ⟨trivial, List.forall_mem_cons.mpr ⟨⟨⟨_, _, _, rfl, by decide, zm_f5.1, zm_f5.2.1, zm_f5.2.2, Or.inl ⟨_, zw_753, Or.inl rfl⟩⟩, zm_okw_n rfl rfl⟩, List.forall_mem_cons.mpr ⟨trivial, List.forall_mem_cons.mpr ⟨trivial, fun _ h => absurd h List.not_mem_nil⟩⟩⟩⟩⟩⟩
set_option maxRecDepth 100000 in
theorem zq_81_6 : ∀ e ∈ zm_c81_6, zm_okq 81 e.2 := List.forall_mem_cons.mpr ⟨⟨⟨_, _, _, rfl, by decide, zm_f5.1, zm_f5.2.1, zm_f5.2.2, Or.inl ⟨_, zw_752, Or.inl rfl⟩⟩, zm_okw_n rfl rfl⟩, List.forall_mem_cons.mpr ⟨trivial, List.forall_mem_cons.mpr ⟨trivial, List.forall_mem_cons.mpr ⟨trivial, List.forall_mem_cons.mpr ⟨trivial, List.forall_mem_cons.mpr ⟨trivial, fun _ h => absurd h List.not_mem_nil⟩⟩⟩⟩⟩⟩
set_option maxRecDepth 100000 in
theorem zq_81_7 : ∀ e ∈ zm_c81_7, zm_okq 81 e.2 := List.forall_mem_cons.mpr ⟨trivial, List.forall_mem_cons.mpr ⟨trivial, fun _ h => absurd h List.not_mem_nil⟩⟩
set_option maxRecDepth 100000 in
theorem zq_82_0 : ∀ e ∈ zm_c82_0, zm_okq 82 e.2 := List.forall_mem_cons.mpr ⟨trivial, List.forall_mem_cons.mpr ⟨trivial, List.forall_mem_cons.mpr ⟨trivial, List.forall_mem_cons.mpr ⟨trivial, List.forall_mem_cons.mpr ⟨trivial, List.forall_mem_cons.mpr ⟨trivial, fun _ h => absurd h List.not_mem_nil⟩⟩⟩⟩⟩⟩
set_option maxRecDepth 100000 in
theorem zq_82_1 : ∀ e ∈ zm_c82_1, zm_okq 82 e.2 := List.forall_mem_cons.mpr ⟨trivial, List.forall_mem_cons.mpr ⟨trivial, List.forall_mem_cons.mpr ⟨⟨_, _, _, rfl, by decide, zm_f5.1, zm_f5.2.1, zm_f5.2.2, Or.inl ⟨_, zw_727, Or.inl rfl⟩⟩, List.forall_mem_cons.mpr ⟨trivial, List.forall_mem_cons.mpr ⟨trivial, List.forall_mem_cons.mpr ⟨trivial, fun _ h => absurd h List.not_mem_nil⟩⟩⟩⟩⟩⟩
set_option maxRecDepth 100000 in
theorem zq_82_2 : ∀ e ∈ zm_c82_2, zm_okq 82 e.2 := List.forall_mem_cons.mpr ⟨trivial, List.forall_mem_cons.mpr ⟨trivial, List.forall_mem_cons.mpr ⟨trivial, List.forall_mem_cons.mpr ⟨⟨_, _, _, rfl, by decide, zm_f5.1, zm_f5.2.1, zm_f5.2.2, Or.inl ⟨_, zw_723, Or.inl rfl⟩⟩, List.forall_mem_cons.mpr ⟨trivial, List.forall_mem_cons.mpr ⟨trivial, fun _ h => absurd h List.not_mem_nil⟩⟩⟩⟩⟩⟩
set_option maxRecDepth 100000 in
theorem zq_82_3 : ∀ e ∈ zm_c82_3, zm_okq 82 e.2 := List.forall_mem_cons.mpr ⟨trivial, List.forall_mem_cons.mpr ⟨trivial, List.forall_mem_cons.mpr ⟨trivial, List.forall_mem_cons.mpr ⟨trivial, List.forall_mem_cons.mpr ⟨trivial, List.forall_mem_cons.mpr ⟨⟨_, _, _, rfl, by decide, zm_f5.1, zm_f5.2.1, zm_f5.2.2, Or.inl ⟨_, zw_723, Or.inl rfl⟩⟩, fun _ h => absurd h List.not_mem_nil⟩⟩⟩⟩⟩⟩
set_option maxRecDepth 100000 in
theorem zq_82_4 : ∀ e ∈ zm_c82_4, zm_okq 82 e.2 := List.forall_mem_cons.mpr ⟨trivial, List.forall_mem_cons.mpr ⟨trivial, List.forall_mem_cons.mpr ⟨trivial, List.forall_mem_cons.mpr ⟨trivial, List.forall_mem_cons.mpr ⟨trivial, List.forall_mem_cons.mpr ⟨trivial, fun _ h => absurd h List.not_mem_nil⟩⟩⟩⟩⟩⟩
set_option maxRecDepth 100000 in
theorem zq_82_5 : ∀ e ∈ zm_c82_5, zm_okq 82 e.2 := List.forall_mem_cons.mpr ⟨trivial, List.forall_mem_cons.mpr ⟨⟨_, _, _, rfl, by decide, zm_f5.1, zm_f5.2.1, zm_f5.2.2, Or.inl ⟨_, zw_722, Or.inl rfl⟩⟩, List.forall_mem_cons.mpr ⟨trivial, List.forall_mem_cons.mpr ⟨trivial, List.forall_mem_cons.mpr ⟨⟨_, _, _, rfl, by decide, zm_f5.1, zm_f5.2.1, zm_f5.2.2, Or.inl ⟨_, zw_721, Or.inl rfl⟩⟩, List.forall_mem_cons.mpr ⟨trivial, fun _ h => absurd h List.not_mem_nil⟩⟩⟩⟩⟩⟩
set_option maxRecDepth 100000 in
theorem zq_82_6 : ∀ e ∈ zm_c82_6, zm_okq 82 e.2 := List.forall_mem_cons.mpr ⟨trivial, List.forall_mem_cons.mpr ⟨trivial, List.forall_mem_cons.mpr ⟨trivial, List.forall_mem_cons.mpr ⟨trivial, List.forall_mem_cons.mpr ⟨trivial, List.forall_mem_cons.mpr ⟨trivial, fun _ h => absurd h List.not_mem_nil⟩⟩⟩⟩⟩⟩
set_option maxRecDepth 100000 in
theorem zq_82_7 : ∀ e ∈ zm_c82_7, zm_okq 82 e.2 := List.forall_mem_cons.mpr ⟨⟨_, _, _, rfl, by decide, zm_f5.1, zm_f5.2.1, zm_f5.2.2, Or.inl ⟨_, zw_723, Or.inl rfl⟩⟩, List.forall_mem_cons.mpr ⟨trivial, List.forall_mem_cons.mpr ⟨trivial, List.forall_mem_cons.mpr ⟨trivial, List.forall_mem_cons.mpr ⟨trivial, List.forall_mem_cons.mpr ⟨trivial, fun _ h => absurd h List.not_mem_nil⟩⟩⟩⟩⟩⟩
set_option maxRecDepth 100000 in
theorem zq_82_8 : ∀ e ∈ zm_c82_8, zm_okq 82 e.2 := List.forall_mem_cons.mpr ⟨trivial, List.forall_mem_cons.mpr ⟨trivial, List.forall_mem_cons.mpr ⟨trivial, List.forall_mem_cons.mpr ⟨trivial, List.forall_mem_cons.mpr ⟨trivial, List.forall_mem_cons.mpr ⟨trivial, fun _ h => absurd h List.not_mem_nil⟩⟩⟩⟩⟩⟩
set_option maxRecDepth 100000 in
theorem zq_82_9 : ∀ e ∈ zm_c82_9, zm_okq 82 e.2 := List.forall_mem_cons.mpr ⟨⟨_, _, _, rfl, by decide, zm_f5.1, zm_f5.2.1, zm_f5.2.2, Or.inl ⟨_, zw_721, Or.inl rfl⟩⟩, List.forall_mem_cons.mpr ⟨trivial, List.forall_mem_cons.mpr ⟨trivial, List.forall_mem_cons.mpr ⟨⟨_, _, _, rfl, by decide, zm_f5.1, zm_f5.2.1, zm_f5.2.2, Or.inl ⟨_, zw_722, Or.inl rfl⟩⟩, List.forall_mem_cons.mpr ⟨trivial, List.forall_mem_cons.mpr ⟨trivial, fun _ h => absurd h List.not_mem_nil⟩⟩⟩⟩⟩⟩
set_option maxRecDepth 100000 in
theorem zq_82_10 : ∀ e ∈ zm_c82_10, zm_okq 82 e.2 := List.forall_mem_cons.mpr ⟨trivial, List.forall_mem_cons.mpr ⟨trivial, List.forall_mem_cons.mpr ⟨trivial, List.forall_mem_cons.mpr ⟨trivial, List.forall_mem_cons.mpr ⟨trivial, List.forall_mem_cons.mpr ⟨⟨⟨_, _, _, rfl, by decide, zm_f5.1, zm_f5.2.1, zm_f5.2.2, Or.inl ⟨_, zw_731, Or.inl rfl⟩⟩, zm_okw_n rfl rfl⟩, fun _ h => absurd h List.not_mem_nil⟩⟩⟩⟩⟩⟩
set_option maxRecDepth 100000 in
theorem zq_82_11 : ∀ e ∈ zm_c82_11, zm_okq 82 e.2 := List.forall_mem_cons.mpr ⟨trivial, List.forall_mem_cons.mpr ⟨trivial, List.forall_mem_cons.mpr ⟨trivial, List.forall_mem_cons.mpr ⟨trivial, List.forall_mem_cons.mpr ⟨trivial, List.forall_mem_cons.mpr ⟨⟨⟨_, _, _, rfl, by decide, zm_f5.1, zm_f5.2.1, zm_f5.2.2, Or.inl ⟨_, zw_745, Or.inl rfl⟩⟩, zm_okw_n rfl rfl⟩, fun _ h => absurd h List.not_mem_nil⟩⟩⟩⟩⟩⟩
set_option maxRecDepth 100000 in
theorem zq_82_12 : ∀ e ∈ zm_c82_12, zm_okq 82 e.2 := List.forall_mem_cons.mpr ⟨trivial, List.forall_mem_cons.mpr ⟨⟨⟨_, _, _, rfl, by decide, zm_f5.1, zm_f5.2.1, zm_f5.2.2, Or.inl ⟨_, zw_744, Or.inl rfl⟩⟩, zm_okw_n rfl rfl⟩, List.forall_mem_cons.mpr ⟨⟨⟨_, _, _, rfl, by decide, zm_f5.1, zm_f5.2.1, zm_f5.2.2, Or.inl ⟨_, zw_743, Or.inl rfl⟩⟩, zm_okw_n rfl rfl⟩, List.forall_mem_cons.mpr ⟨trivial, fun _ h => absurd h List.not_mem_nil⟩⟩⟩⟩
set_option maxRecDepth 100000 in
theorem zq_83_0 : ∀ e ∈ zm_c83_0, zm_okq 83 e.2 := List.forall_mem_cons.mpr ⟨trivial, List.forall_mem_cons.mpr ⟨trivial, List.forall_mem_cons.mpr ⟨trivial, List.forall_mem_cons.mpr ⟨trivial, List.forall_mem_cons.mpr ⟨trivial, List.forall_mem_cons.mpr ⟨trivial, fun _ h => absurd h List.not_mem_nil⟩⟩⟩⟩⟩⟩
set_option maxRecDepth 100000 in
theorem zq_83_1 : ∀ e ∈ zm_c83_1, zm_okq 83 e.2 := List.forall_mem_cons.mpr ⟨trivial, List.forall_mem_cons.mpr ⟨trivial, List.forall_mem_cons.mpr ⟨⟨_, _, _, rfl, by decide, zm_f5.1, zm_f5.2.1, zm_f5.2.2, Or.inl ⟨_, zw_721, Or.inl rfl⟩⟩, List.forall_mem_cons.mpr ⟨trivial, List.forall_mem_cons.mpr ⟨trivial, List.forall_mem_cons.mpr ⟨trivial, fun _ h => absurd h List.not_mem_nil⟩⟩⟩⟩⟩⟩
set_option maxRecDepth 100000 in
theorem zq_83_2 : ∀ e ∈ zm_c83_2, zm_okq 83 e.2 := List.forall_mem_cons.mpr ⟨trivial, List.forall_mem_cons.mpr ⟨trivial, List.forall_mem_cons.mpr ⟨trivial, List.forall_mem_cons.mpr ⟨trivial, List.forall_mem_cons.mpr ⟨trivial, List.forall_mem_cons.mpr ⟨trivial, fun _ h => absurd h List.not_mem_nil⟩⟩⟩⟩⟩⟩
set_option maxRecDepth 100000 in
theorem zq_83_3 : ∀ e ∈ zm_c83_3, zm_okq 83 e.2 := List.forall_mem_cons.mpr ⟨trivial, List.forall_mem_cons.mpr ⟨trivial, fun _ h => absurd h List.not_mem_nil⟩⟩
set_option maxRecDepth 100000 in
theorem zq_84_0 : ∀ e ∈ zm_c84_0, zm_okq 84 e.2 := List.forall_mem_cons.mpr ⟨trivial, List.forall_mem_cons.mpr ⟨trivial, List.forall_mem_cons.mpr ⟨⟨⟨_, _, _, rfl, by decide, zm_f5.1, zm_f5.2.1, zm_f5.2.2, Or.inl ⟨_, zw_751, Or.inl rfl⟩⟩, zm_okw_n rfl rfl⟩, List.forall_mem_cons.mpr ⟨trivial, List.forall_mem_cons.mpr ⟨trivial, List.forall_mem_cons.mpr ⟨trivial, fun _ h => absurd h List.not_mem_nil⟩⟩⟩⟩⟩⟩
set_option maxRecDepth 100000 in
theorem zq_84_1 : ∀ e ∈ zm_c84_1, zm_okq 84 e.2 := List.forall_mem_cons.mpr ⟨trivial, List.forall_mem_cons.mpr ⟨trivial, List.forall_mem_cons.mpr ⟨⟨_, _, _, rfl, by decide, zm_f5.1, zm_f5.2.1, zm_f5.2.2, Or.inl ⟨_, zw_751, Or.inl rfl⟩⟩, List.forall_mem_cons.mpr ⟨trivial, List.forall_mem_cons.mpr ⟨trivial, List.forall_mem_cons.mpr ⟨⟨_, _, _, rfl, by decide, zm_f5.1, zm_f5.2.1, zm_f5.2.2, Or.inl ⟨_, zw_732, Or.inl rfl⟩⟩, fun _ h => absurd h List.not_mem_nil⟩⟩⟩⟩⟩⟩
set_option maxRecDepth 100000 in
theorem zq_84_2 : ∀ e ∈ zm_c84_2, zm_okq 84 e.2 := List.forall_mem_cons.mpr ⟨trivial, List.forall_mem_cons.mpr ⟨trivial, List.forall_mem_cons.mpr ⟨trivial, List.forall_mem_cons.mpr ⟨trivial, List.forall_mem_cons.mpr ⟨trivial, fun _ h => absurd h List.not_mem_nil⟩⟩⟩⟩⟩
set_option maxRecDepth 100000 in
theorem zq_85_0 : ∀ e ∈ zm_c85_0, zm_okq 85 e.2 := List.forall_mem_cons.mpr ⟨trivial, List.forall_mem_cons.mpr ⟨⟨_, _, _, rfl, by decide, zm_f5.1, zm_f5.2.1, zm_f5.2.2, Or.inl ⟨_, zw_751, Or.inl rfl⟩⟩, List.forall_mem_cons.mpr ⟨trivial, List.forall_mem_cons.mpr ⟨trivial, List.forall_mem_cons.mpr ⟨trivial, List.forall_mem_cons.mpr ⟨trivial, fun _ h => absurd h List.not_mem_nil⟩⟩⟩⟩⟩⟩
set_option maxRecDepth 100000 in
theorem zq_85_1 : ∀ e ∈ zm_c85_1, zm_okq 85 e.2 := List.forall_mem_cons.mpr ⟨⟨⟨_, _, _, rfl, by decide, zm_f5.1, zm_f5.2.1, zm_f5.2.2, Or.inl ⟨_, zw_732, Or.inl rfl⟩⟩, zm_okw_n rfl rfl⟩, List.forall_mem_cons.mpr ⟨trivial, List.forall_mem_cons.mpr ⟨trivial, List.forall_mem_cons.mpr ⟨trivial, List.forall_mem_cons.mpr ⟨⟨_, _, _, rfl, by decide, zm_f5.1, zm_f5.2.1, zm_f5.2.2, Or.inl ⟨_, zw_751, Or.inl rfl⟩⟩, List.forall_mem_cons.mpr ⟨trivial, fun _ h => absurd h List.not_mem_nil⟩⟩⟩⟩⟩⟩
set_option maxRecDepth 100000 in
theorem zq_85_2 : ∀ e ∈ zm_c85_2, zm_okq 85 e.2 := List.forall_mem_cons.mpr ⟨trivial, List.forall_mem_cons.mpr ⟨⟨⟨_, _, _, rfl, by decide, zm_f5.1, zm_f5.2.1, zm_f5.2.2, Or.inl ⟨_, zw_751, Or.inl rfl⟩⟩, zm_okw_n rfl rfl⟩, List.forall_mem_cons.mpr ⟨trivial, List.forall_mem_cons.mpr ⟨⟨_, _, _, rfl, by decide, zm_f5.1, zm_f5.2.1, zm_f5.2.2, Or.inl ⟨_, zw_751, Or.inl rfl⟩⟩, List.forall_mem_cons.mpr ⟨trivial, List.forall_mem_cons.mpr ⟨⟨_, _, _, rfl, by decide, zm_f5.1, zm_f5.2.1, zm_f5.2.2, Or.inl ⟨_, zw_752, Or.inl rfl⟩⟩, fun _ h => absurd h List.not_mem_nil⟩⟩⟩⟩⟩⟩
set_option maxRecDepth 100000 in
theorem zq_85_3 : ∀ e ∈ zm_c85_3, zm_okq 85 e.2 := List.forall_mem_cons.mpr ⟨trivial, List.forall_mem_cons.mpr ⟨trivial, List.forall_mem_cons.mpr ⟨trivial, List.forall_mem_cons.mpr ⟨⟨_, _, _, rfl, by decide, zm_f5.1, zm_f5.2.1, zm_f5.2.2, Or.inl ⟨_, zw_751, Or.inl rfl⟩⟩, List.forall_mem_cons.mpr ⟨⟨⟨_, _, _, rfl, by decide, zm_f5.1, zm_f5.2.1, zm_f5.2.2, Or.inl ⟨_, zw_752, Or.inl rfl⟩⟩, zm_okw_n rfl rfl⟩, List.forall_mem_cons.mpr ⟨trivial, fun _ h => absurd h List.not_mem_nil⟩⟩⟩⟩⟩⟩
set_option maxRecDepth 100000 in
theorem zq_85_4 : ∀ e ∈ zm_c85_4, zm_okq 85 e.2 := List.forall_mem_cons.mpr ⟨⟨_, _, _, rfl, by decide, zm_f5.1, zm_f5.2.1, zm_f5.2.2, Or.inl ⟨_, zw_746, Or.inl rfl⟩⟩, List.forall_mem_cons.mpr ⟨trivial, List.forall_mem_cons.mpr ⟨⟨_, _, _, rfl, by decide, zm_f5.1, zm_f5.2.1, zm_f5.2.2, Or.inl ⟨_, zw_751, Or.inl rfl⟩⟩, List.forall_mem_cons.mpr ⟨trivial, List.forall_mem_cons.mpr ⟨trivial, List.forall_mem_cons.mpr ⟨trivial, fun _ h => absurd h List.not_mem_nil⟩⟩⟩⟩⟩⟩
set_option maxRecDepth 100000 in
theorem zq_85_5 : ∀ e ∈ zm_c85_5, zm_okq 85 e.2 := List.forall_mem_cons.mpr ⟨⟨_, _, _, rfl, by decide, zm_f5.1, zm_f5.2.1, zm_f5.2.2, Or.inl ⟨_, zw_747, Or.inl rfl⟩⟩, List.forall_mem_cons.mpr ⟨trivial, List.forall_mem_cons.mpr ⟨⟨_, _, _, rfl, by decide, zm_f5.1, zm_f5.2.1, zm_f5.2.2, Or.inl ⟨_, zw_751, Or.inl rfl⟩⟩, List.forall_mem_cons.mpr ⟨trivial, List.forall_mem_cons.mpr ⟨trivial, List.forall_mem_cons.mpr ⟨trivial, fun _ h => absurd h List.not_mem_nil⟩⟩⟩⟩⟩⟩
set_option maxRecDepth 100000 in
theorem zq_85_6 : ∀ e ∈ zm_c85_6, zm_okq 85 e.2 := List.forall_mem_cons.mpr ⟨⟨_, _, _, rfl, by decide, zm_f5.1, zm_f5.2.1, zm_f5.2.2, Or.inl ⟨_, zw_748, Or.inl rfl⟩⟩, List.forall_mem_cons.mpr ⟨trivial, List.forall_mem_cons.mpr ⟨⟨_, _, _, rfl, by decide, zm_f5.1, zm_f5.2.1, zm_f5.2.2, Or.inl ⟨_, zw_751, Or.inl rfl⟩⟩, List.forall_mem_cons.mpr ⟨trivial, List.forall_mem_cons.mpr ⟨trivial, List.forall_mem_cons.mpr ⟨trivial, fun _ h => absurd h List.not_mem_nil⟩⟩⟩⟩⟩⟩
set_option maxRecDepth 100000 in
theorem zq_85_7 : ∀ e ∈ zm_c85_7, zm_okq 85 e.2 := List.forall_mem_cons.mpr ⟨⟨_, _, _, rfl, by decide, zm_f5.1, zm_f5.2.1, zm_f5.2.2, Or.inl ⟨_, zw_750, Or.inl rfl⟩⟩, List.forall_mem_cons.mpr ⟨trivial, List.forall_mem_cons.mpr ⟨⟨_, _, _, rfl, by decide, zm_f5.1, zm_f5.2.1, zm_f5.2.2, Or.inl ⟨_, zw_751, Or.inl rfl⟩⟩, List.forall_mem_cons.mpr ⟨trivial, List.forall_mem_cons.mpr ⟨trivial, List.forall_mem_cons.mpr ⟨trivial, fun _ h => absurd h List.not_mem_nil⟩⟩⟩⟩⟩⟩
set_option maxRecDepth 100000 in
theorem zq_86_0 : ∀ e ∈ zm_c86_0, zm_okq 86 e.2 := List.forall_mem_cons.mpr ⟨trivial, List.forall_mem_cons.mpr ⟨⟨_, _, _, rfl, by decide, zm_f5.1, zm_f5.2.1, zm_f5.2.2, Or.inl ⟨_, zw_751, Or.inl rfl⟩⟩, List.forall_mem_cons.mpr ⟨trivial, List.forall_mem_cons.mpr ⟨trivial, List.forall_mem_cons.mpr ⟨⟨_, _, _, rfl, by decide, zm_f5.1, zm_f5.2.1, zm_f5.2.2, Or.inl ⟨_, zw_746, Or.inl rfl⟩⟩, List.forall_mem_cons.mpr ⟨trivial, fun _ h => absurd h List.not_mem_nil⟩⟩⟩⟩⟩⟩
set_option maxRecDepth 100000 in
theorem zq_86_1 : ∀ e ∈ zm_c86_1, zm_okq 86 e.2 := List.forall_mem_cons.mpr ⟨trivial, List.forall_mem_cons.mpr ⟨trivial, List.forall_mem_cons.mpr ⟨trivial, List.forall_mem_cons.mpr ⟨⟨_, _, _, rfl, by decide, zm_f5.1, zm_f5.2.1, zm_f5.2.2, Or.inl ⟨_, zw_721, Or.inl rfl⟩⟩, List.forall_mem_cons.mpr ⟨trivial, List.forall_mem_cons.mpr ⟨trivial, fun _ h => absurd h List.not_mem_nil⟩⟩⟩⟩⟩⟩
set_option maxRecDepth 100000 in
theorem zq_86_2 : ∀ e ∈ zm_c86_2, zm_okq 86 e.2 := List.forall_mem_cons.mpr ⟨trivial, List.forall_mem_cons.mpr ⟨trivial, List.forall_mem_cons.mpr ⟨⟨_, _, _, rfl, by decide, zm_f5.1, zm_f5.2.1, zm_f5.2.2, Or.inl ⟨_, zw_748, Or.inl rfl⟩⟩, List.forall_mem_cons.mpr ⟨trivial, List.forall_mem_cons.mpr ⟨trivial, List.forall_mem_cons.mpr ⟨trivial, fun _ h => absurd h List.not_mem_nil⟩⟩⟩⟩⟩⟩
set_option maxRecDepth 100000 in
theorem zq_86_3 : ∀ e ∈ zm_c86_3, zm_okq 86 e.2 := List.forall_mem_cons.mpr ⟨trivial, List.forall_mem_cons.mpr ⟨trivial, List.forall_mem_cons.mpr ⟨trivial, List.forall_mem_cons.mpr ⟨trivial, List.forall_mem_cons.mpr ⟨trivial, List.forall_mem_cons.mpr ⟨⟨_, _, _, rfl, by decide, zm_f5.1, zm_f5.2.1, zm_f5.2.2, Or.inl ⟨_, zw_748, Or.inl rfl⟩⟩, fun _ h => absurd h List.not_mem_nil⟩⟩⟩⟩⟩⟩
set_option maxRecDepth 100000 in
theorem zq_86_4 : ∀ e ∈ zm_c86_4, zm_okq 86 e.2 := List.forall_mem_cons.mpr ⟨trivial, List.forall_mem_cons.mpr ⟨trivial, List.forall_mem_cons.mpr ⟨trivial, List.forall_mem_cons.mpr ⟨trivial, List.forall_mem_cons.mpr ⟨trivial, List.forall_mem_cons.mpr ⟨trivial, fun _ h => absurd h List.not_mem_nil⟩⟩⟩⟩⟩⟩
set_option maxRecDepth 100000 in
theorem zq_86_5 : ∀ e ∈ zm_c86_5, zm_okq 86 e.2 := List.forall_mem_cons.mpr ⟨⟨_, _, _, rfl, by decide, zm_f5.1, zm_f5.2.1, zm_f5.2.2, Or.inl ⟨_, zw_751, Or.inl rfl⟩⟩, List.forall_mem_cons.mpr ⟨trivial, List.forall_mem_cons.mpr ⟨trivial, List.forall_mem_cons.mpr ⟨⟨⟨_, _, _, rfl, by decide, zm_f5.1, zm_f5.2.1, zm_f5.2.2, Or.inl ⟨_, zw_751, Or.inl rfl⟩⟩, zm_okw_n rfl rfl⟩, List.forall_mem_cons.mpr ⟨trivial, List.forall_mem_cons.mpr ⟨trivial, fun _ h => absurd h List.not_mem_nil⟩⟩⟩⟩⟩⟩
set_option maxRecDepth 100000 in
theorem zq_86_6 : ∀ e ∈ zm_c86_6, zm_okq 86 e.2 := List.forall_mem_cons.mpr ⟨⟨_, _, _, rfl, by decide, zm_f5.1, zm_f5.2.1, zm_f5.2.2, Or.inl ⟨_, zw_748, Or.inl rfl⟩⟩, List.forall_mem_cons.mpr ⟨trivial, List.forall_mem_cons.mpr ⟨trivial, List.forall_mem_cons.mpr ⟨trivial, List.forall_mem_cons.mpr ⟨trivial, List.forall_mem_cons.mpr ⟨trivial, fun _ h => absurd h List.not_mem_nil⟩⟩⟩⟩⟩⟩
set_option maxRecDepth 100000 in
theorem zq_86_7 : ∀ e ∈ zm_c86_7, zm_okq 86 e.2 := List.forall_mem_cons.mpr ⟨trivial, List.forall_mem_cons.mpr ⟨trivial, List.forall_mem_cons.mpr ⟨trivial, List.forall_mem_cons.mpr ⟨trivial, List.forall_mem_cons.mpr ⟨trivial, List.forall_mem_cons.mpr ⟨trivial, fun _ h => absurd h List.not_mem_nil⟩⟩⟩⟩⟩⟩
set_option maxRecDepth 100000 in
theorem zq_86_8 : ∀ e ∈ zm_c86_8, zm_okq 86 e.2 := List.forall_mem_cons.mpr ⟨trivial, List.forall_mem_cons.mpr ⟨trivial, List.forall_mem_cons.mpr ⟨trivial, List.forall_mem_cons.mpr ⟨trivial, List.forall_mem_cons.mpr ⟨trivial, List.forall_mem_cons.mpr ⟨trivial, fun _ h => absurd h List.not_mem_nil⟩⟩⟩⟩⟩⟩
set_option maxRecDepth 100000 in
theorem zq_86_9 : ∀ e ∈ zm_c86_9, zm_okq 86 e.2 := List.forall_mem_cons.mpr ⟨trivial, List.forall_mem_cons.mpr ⟨trivial, List.forall_mem_cons.mpr ⟨trivial, List.forall_mem_cons.mpr ⟨trivial, List.forall_mem_cons.mpr ⟨trivial, List.forall_mem_cons.mpr ⟨trivial, fun _ h => absurd h List.not_mem_nil⟩⟩⟩⟩⟩⟩
set_option maxRecDepth 100000 in
theorem zq_86_10 : ∀ e ∈ zm_c86_10, zm_okq 86 e.2 := List.forall_mem_cons.mpr ⟨trivial, List.forall_mem_cons.mpr ⟨trivial, List.forall_mem_cons.mpr ⟨trivial, List.forall_mem_cons.mpr ⟨trivial, List.forall_mem_cons.mpr ⟨trivial, List.forall_mem_cons.mpr ⟨trivial, fun _ h => absurd h List.not_mem_nil⟩⟩⟩⟩⟩⟩
set_option maxRecDepth 100000 in
theorem zq_86_11 : ∀ e ∈ zm_c86_11, zm_okq 86 e.2 := List.forall_mem_cons.mpr ⟨trivial, List.forall_mem_cons.mpr ⟨trivial, List.forall_mem_cons.mpr ⟨trivial, List.forall_mem_cons.mpr ⟨trivial, List.forall_mem_cons.mpr ⟨trivial, List.forall_mem_cons.mpr ⟨trivial, fun _ h => absurd h List.not_mem_nil⟩⟩⟩⟩⟩⟩
set_option maxRecDepth 100000 in
theorem zq_86_12 : ∀ e ∈ zm_c86_12, zm_okq 86 e.2 := List.forall_mem_cons.mpr ⟨trivial, List.forall_mem_cons.mpr ⟨trivial, List.forall_mem_cons.mpr ⟨trivial, List.forall_mem_cons.mpr ⟨trivial, List.forall_mem_cons.mpr ⟨⟨_, _, _, rfl, by decide, zm_f5.1, zm_f5.2.1, zm_f5.2.2, Or.inl ⟨_, zw_747, Or.inl rfl⟩⟩, List.forall_mem_cons.mpr ⟨trivial, fun _ h => absurd h List.not_mem_nil⟩⟩⟩⟩⟩⟩
set_option maxRecDepth 100000 in
theorem zq_86_13 : ∀ e ∈ zm_c86_13, zm_okq 86 e.2 := List.forall_mem_cons.mpr ⟨trivial, List.forall_mem_cons.mpr ⟨trivial, List.forall_mem_cons.mpr ⟨trivial, List.forall_mem_cons.mpr ⟨trivial, List.forall_mem_cons.mpr ⟨trivial, List.forall_mem_cons.mpr ⟨trivial, fun _ h => absurd h List.not_mem_nil⟩⟩⟩⟩⟩⟩
set_option maxRecDepth 100000 in
theorem zq_86_14 : ∀ e ∈ zm_c86_14, zm_okq 86 e.2 := List.forall_mem_cons.mpr ⟨trivial, List.forall_mem_cons.mpr ⟨trivial, List.forall_mem_cons.mpr ⟨trivial, List.forall_mem_cons.mpr ⟨trivial, List.forall_mem_cons.mpr ⟨trivial, List.forall_mem_cons.mpr ⟨trivial, fun _ h => absurd h List.not_mem_nil⟩⟩⟩⟩⟩⟩
set_option maxRecDepth 100000 in
theorem zq_86_15 : ∀ e ∈ zm_c86_15, zm_okq 86 e.2 := List.forall_mem_cons.mpr ⟨trivial, List.forall_mem_cons.mpr ⟨trivial, List.forall_mem_cons.mpr ⟨trivial, List.forall_mem_cons.mpr ⟨trivial, List.forall_mem_cons.mpr ⟨trivial, List.forall_mem_cons.mpr ⟨trivial, fun _ h => absurd h List.not_mem_nil⟩⟩⟩⟩⟩⟩
set_option maxRecDepth 100000 in
theorem zq_86_16 : ∀ e ∈ zm_c86_16, zm_okq 86 e.2 := List.forall_mem_cons.mpr ⟨trivial, List.forall_mem_cons.mpr ⟨trivial, List.forall_mem_cons.mpr ⟨trivial, List.forall_mem_cons.mpr ⟨trivial, List.forall_mem_cons.mpr ⟨trivial, List.forall_mem_cons.mpr ⟨⟨_, _, _, rfl, by decide, zm_f5.1, zm_f5.2.1, zm_f5.2.2, Or.inl ⟨_, zw_747, Or.inl rfl⟩⟩, fun _ h => absurd h List.not_mem_nil⟩⟩⟩⟩⟩⟩
set_option maxRecDepth 100000 in
theorem zq_86_17 : ∀ e ∈ zm_c86_17, zm_okq 86 e.2 := List.forall_mem_cons.mpr ⟨trivial, List.forall_mem_cons.mpr ⟨trivial, List.forall_mem_cons.mpr ⟨trivial, List.forall_mem_cons.mpr ⟨trivial, List.forall_mem_cons.mpr ⟨trivial, List.forall_mem_cons.mpr ⟨trivial, fun _ h => absurd h List.not_mem_nil⟩⟩⟩⟩⟩⟩
set_option maxRecDepth 100000 in
theorem zq_86_18 : ∀ e ∈ zm_c86_18, zm_okq 86 e.2 := List.forall_mem_cons.mpr ⟨trivial, List.forall_mem_cons.mpr ⟨trivial, List.forall_mem_cons.mpr ⟨trivial, List.forall_mem_cons.mpr ⟨trivial, List.forall_mem_cons.mpr ⟨trivial, List.forall_mem_cons.mpr ⟨trivial, fun _ h => absurd h List.not_mem_nil⟩⟩⟩⟩⟩⟩
set_option maxRecDepth 100000 in
theorem zq_86_19 : ∀ e ∈ zm_c86_19, zm_okq 86 e.2 := List.forall_mem_cons.mpr ⟨trivial, List.forall_mem_cons.mpr ⟨trivial, List.forall_mem_cons.mpr ⟨⟨_, _, _, rfl, by decide, zm_f5.1, zm_f5.2.1, zm_f5.2.2, Or.inl ⟨_, zw_747, Or.inl rfl⟩⟩, List.forall_mem_cons.mpr ⟨trivial, List.forall_mem_cons.mpr ⟨trivial, List.forall_mem_cons.mpr ⟨trivial, fun _ h => absurd h List.not_mem_nil⟩⟩⟩⟩⟩⟩
set_option maxRecDepth 100000 in
theorem zq_86_20 : ∀ e ∈ zm_c86_20, zm_okq 86 e.2 := List.forall_mem_cons.mpr ⟨trivial, List.forall_mem_cons.mpr ⟨trivial, List.forall_mem_cons.mpr ⟨trivial, List.forall_mem_cons.mpr ⟨⟨_, _, _, rfl, by decide, zm_f5.1, zm_f5.2.1, zm_f5.2.2, Or.inl ⟨_, zw_748, Or.inl rfl⟩⟩, List.forall_mem_cons.mpr ⟨trivial, List.forall_mem_cons.mpr ⟨trivial, fun _ h => absurd h List.not_mem_nil⟩⟩⟩⟩⟩⟩
set_option maxRecDepth 100000 in
theorem zq_86_21 : ∀ e ∈ zm_c86_21, zm_okq 86 e.2 := List.forall_mem_cons.mpr ⟨trivial, List.forall_mem_cons.mpr ⟨trivial, List.forall_mem_cons.mpr ⟨trivial, List.forall_mem_cons.mpr ⟨trivial, List.forall_mem_cons.mpr ⟨trivial, List.forall_mem_cons.mpr ⟨trivial, fun _ h => absurd h List.not_mem_nil⟩⟩⟩⟩⟩⟩
set_option maxRecDepth 100000 in
theorem zq_86_22 : ∀ e ∈ zm_c86_22, zm_okq 86 e.2 := List.forall_mem_cons.mpr ⟨⟨_, _, _, rfl, by decide, zm_f5.1, zm_f5.2.1, zm_f5.2.2, Or.inl ⟨_, zw_747, Or.inl rfl⟩⟩, List.forall_mem_cons.mpr ⟨trivial, List.forall_mem_cons.mpr ⟨trivial, List.forall_mem_cons.mpr ⟨trivial, List.forall_mem_cons.mpr ⟨trivial, fun _ h => absurd h List.not_mem_nil⟩⟩⟩⟩⟩
set_option maxRecDepth 100000 in
theorem zq_87_0 : ∀ e ∈ zm_c87_0, zm_okq 87 e.2 := List.forall_mem_cons.mpr ⟨trivial, List.forall_mem_cons.mpr ⟨⟨_, _, _, rfl, by decide, zm_f5.1, zm_f5.2.1, zm_f5.2.2, Or.inl ⟨_, zw_750, Or.inl rfl⟩⟩, List.forall_mem_cons.mpr ⟨trivial, List.forall_mem_cons.mpr ⟨⟨_, _, _, rfl, by decide, zm_f5.1, zm_f5.2.1, zm_f5.2.2, Or.inl ⟨_, zw_751, Or.inl rfl⟩⟩, List.forall_mem_cons.mpr ⟨trivial, List.forall_mem_cons.mpr ⟨trivial, fun _ h => absurd h List.not_mem_nil⟩⟩⟩⟩⟩⟩
set_option maxRecDepth 100000 in
theorem zq_87_1 : ∀ e ∈ zm_c87_1, zm_okq 87 e.2 := List.forall_mem_cons.mpr ⟨trivial, List.forall_mem_cons.mpr ⟨⟨_, _, _, rfl, by decide, zm_f5.1, zm_f5.2.1, zm_f5.2.2, Or.inl ⟨_, zw_735, Or.inl rfl⟩⟩, List.forall_mem_cons.mpr ⟨trivial, List.forall_mem_cons.mpr ⟨trivial, List.forall_mem_cons.mpr ⟨trivial, List.forall_mem_cons.mpr ⟨trivial, fun _ h => absurd h List.not_mem_nil⟩⟩⟩⟩⟩⟩
set_option maxRecDepth 100000 in
theorem zq_87_2 : ∀ e ∈ zm_c87_2, zm_okq 87 e.2 := List.forall_mem_cons.mpr ⟨⟨_, _, _, rfl, by decide, zm_f5.1, zm_f5.2.1, zm_f5.2.2, Or.inl ⟨_, zw_736, Or.inl rfl⟩⟩, List.forall_mem_cons.mpr ⟨trivial, List.forall_mem_cons.mpr ⟨trivial, List.forall_mem_cons.mpr ⟨⟨_, _, _, rfl, by decide, zm_f5.1, zm_f5.2.1, zm_f5.2.2, Or.inl ⟨_, zw_757, Or.inl rfl⟩⟩, List.forall_mem_cons.mpr ⟨trivial, List.forall_mem_cons.mpr ⟨trivial, fun _ h => absurd h List.not_mem_nil⟩⟩⟩⟩⟩⟩
set_option maxRecDepth 100000 in
theorem zq_87_3 : ∀ e ∈ zm_c87_3, zm_okq 87 e.2 := List.forall_mem_cons.mpr ⟨⟨_, _, _, rfl, by decide, zm_f5.1, zm_f5.2.1, zm_f5.2.2, Or.inl ⟨_, zw_737, Or.inl rfl⟩⟩, List.forall_mem_cons.mpr ⟨trivial, List.forall_mem_cons.mpr ⟨trivial, List.forall_mem_cons.mpr ⟨⟨_, _, _, rfl, by decide, zm_f5.1, zm_f5.2.1, zm_f5.2.2, Or.inl ⟨_, zw_758, Or.inl rfl⟩⟩, List.forall_mem_cons.mpr ⟨trivial, List.forall_mem_cons.mpr ⟨trivial, fun _ h => absurd h List.not_mem_nil⟩⟩⟩⟩⟩⟩
set_option maxRecDepth 100000 in
theorem zq_87_4 : ∀ e ∈ zm_c87_4, zm_okq 87 e.2 := List.forall_mem_cons.mpr ⟨⟨_, _, _, rfl, by decide, zm_f5.1, zm_f5.2.1, zm_f5.2.2, Or.inl ⟨_, zw_738, Or.inl rfl⟩⟩, List.forall_mem_cons.mpr ⟨trivial, List.forall_mem_cons.mpr ⟨trivial, List.forall_mem_cons.mpr ⟨⟨_, _, _, rfl, by decide, zm_f5.1, zm_f5.2.1, zm_f5.2.2, Or.inl ⟨_, zw_759, Or.inl rfl⟩⟩, List.forall_mem_cons.mpr ⟨trivial, List.forall_mem_cons.mpr ⟨trivial, fun _ h => absurd h List.not_mem_nil⟩⟩⟩⟩⟩⟩
set_option maxRecDepth 100000 in
theorem zq_87_5 : ∀ e ∈ zm_c87_5, zm_okq 87 e.2 := List.forall_mem_cons.mpr ⟨trivial, List.forall_mem_cons.mpr ⟨trivial, List.forall_mem_cons.mpr ⟨trivial, fun _ h => absurd h List.not_mem_nil⟩⟩⟩
set_option maxRecDepth 100000 in
theorem zq_88_0 : ∀ e ∈ zm_c88_0, zm_okq 88 e.2 := List.forall_mem_cons.mpr ⟨trivial, List.forall_mem_cons.mpr ⟨trivial, List.forall_mem_cons.mpr ⟨⟨_, _, _, rfl, by decide, zm_f5.1, zm_f5.2.1, zm_f5.2.2, Or.inl ⟨_, zw_736, Or.inl rfl⟩⟩, List.forall_mem_cons.mpr ⟨trivial, List.forall_mem_cons.mpr ⟨trivial, List.forall_mem_cons.mpr ⟨trivial, fun _ h => absurd h List.not_mem_nil⟩⟩⟩⟩⟩⟩
set_option maxRecDepth 100000 in
theorem zq_88_1 : ∀ e ∈ zm_c88_1, zm_okq 88 e.2 := List.forall_mem_cons.mpr ⟨⟨_, _, _, rfl, by decide, zm_f5.1, zm_f5.2.1, zm_f5.2.2, Or.inl ⟨_, zw_737, Or.inl rfl⟩⟩, List.forall_mem_cons.mpr ⟨trivial, List.forall_mem_cons.mpr ⟨trivial, List.forall_mem_cons.mpr ⟨trivial, List.forall_mem_cons.mpr ⟨⟨_, _, _, rfl, by decide, zm_f5.1, zm_f5.2.1, zm_f5.2.2, Or.inl ⟨_, zw_738, Or.inl rfl⟩⟩, List.forall_mem_cons.mpr ⟨trivial, fun _ h => absurd h List.not_mem_nil⟩⟩⟩⟩⟩⟩
set_option maxRecDepth 100000 in
theorem zq_88_2 : ∀ e ∈ zm_c88_2, zm_okq 88 e.2 := List.forall_mem_cons.mpr ⟨trivial, List.forall_mem_cons.mpr ⟨trivial, List.forall_mem_cons.mpr ⟨trivial, fun _ h => absurd h List.not_mem_nil⟩⟩⟩
set_option maxRecDepth 100000 in
theorem zq_89_0 : ∀ e ∈ zm_c89_0, zm_okq 89 e.2 := List.forall_mem_cons.mpr ⟨trivial, List.forall_mem_cons.mpr ⟨trivial, List.forall_mem_cons.mpr ⟨⟨⟨_, _, _, rfl, by decide, zm_f5.1, zm_f5.2.1, zm_f5.2.2, Or.inl ⟨_, zw_757, Or.inl rfl⟩⟩, zm_okw_n rfl rfl⟩, List.forall_mem_cons.mpr ⟨trivial, List.forall_mem_cons.mpr ⟨trivial, List.forall_mem_cons.mpr ⟨⟨⟨_, _, _, rfl, by decide, zm_f5.1, zm_f5.2.1, zm_f5.2.2, Or.inl ⟨_, zw_758, Or.inl rfl⟩⟩, zm_okw_n rfl rfl⟩, fun _ h => absurd h List.not_mem_nil⟩⟩⟩⟩⟩⟩
set_option maxRecDepth 100000 in
theorem zq_89_1 : ∀ e ∈ zm_c89_1, zm_okq 89 e.2 := List.forall_mem_cons.mpr ⟨trivial, List.forall_mem_cons.mpr ⟨trivial, List.forall_mem_cons.mpr ⟨⟨⟨_, _, _, rfl, by decide, zm_f5.1, zm_f5.2.1, zm_f5.2.2, Or.inl ⟨_, zw_759, Or.inl rfl⟩⟩, zm_okw_n rfl rfl⟩, List.forall_mem_cons.mpr ⟨trivial, List.forall_mem_cons.mpr ⟨trivial, List.forall_mem_cons.mpr ⟨⟨_, _, _, rfl, by decide, zm_f5.1, zm_f5.2.1, zm_f5.2.2, Or.inl ⟨_, zw_751, Or.inl rfl⟩⟩, fun _ h => absurd h List.not_mem_nil⟩⟩⟩⟩⟩⟩
set_option maxRecDepth 100000 in
theorem zq_89_2 : ∀ e ∈ zm_c89_2, zm_okq 89 e.2 := List.forall_mem_cons.mpr ⟨trivial, List.forall_mem_cons.mpr ⟨trivial, List.forall_mem_cons.mpr ⟨⟨⟨_, _, _, rfl, by decide, zm_f5.1, zm_f5.2.1, zm_f5.2.2, Or.inl ⟨_, zw_751, Or.inl rfl⟩⟩, zm_okw_n rfl rfl⟩, List.forall_mem_cons.mpr ⟨trivial, fun _ h => absurd h List.not_mem_nil⟩⟩⟩⟩
set_option maxRecDepth 100000 in
theorem zq_90_0 : ∀ e ∈ zm_c90_0, zm_okq 90 e.2 := List.forall_mem_cons.mpr ⟨trivial, List.forall_mem_cons.mpr ⟨⟨_, _, _, rfl, by decide, zm_f5.1, zm_f5.2.1, zm_f5.2.2, Or.inl ⟨_, zw_746, Or.inl rfl⟩⟩, List.forall_mem_cons.mpr ⟨trivial, List.forall_mem_cons.mpr ⟨trivial, List.forall_mem_cons.mpr ⟨trivial, List.forall_mem_cons.mpr ⟨trivial, fun _ h => absurd h List.not_mem_nil⟩⟩⟩⟩⟩⟩
set_option maxRecDepth 100000 in
theorem zq_90_1 : ∀ e ∈ zm_c90_1, zm_okq 90 e.2 := List.forall_mem_cons.mpr ⟨trivial, List.forall_mem_cons.mpr ⟨trivial, List.forall_mem_cons.mpr ⟨trivial, List.forall_mem_cons.mpr ⟨trivial, List.forall_mem_cons.mpr ⟨trivial, List.forall_mem_cons.mpr ⟨trivial, fun _ h => absurd h List.not_mem_nil⟩⟩⟩⟩⟩⟩
set_option maxRecDepth 100000 in
theorem zq_90_2 : ∀ e ∈ zm_c90_2, zm_okq 90 e.2 := List.forall_mem_cons.mpr ⟨trivial, List.forall_mem_cons.mpr ⟨trivial, List.forall_mem_cons.mpr ⟨trivial, List.forall_mem_cons.mpr ⟨trivial, List.forall_mem_cons.mpr ⟨⟨_, _, _, rfl, by decide, zm_f5.1, zm_f5.2.1, zm_f5.2.2, Or.inl ⟨_, zw_757, Or.inl rfl⟩⟩, List.forall_mem_cons.mpr ⟨trivial, fun _ h => absurd h List.not_mem_nil⟩⟩⟩⟩⟩⟩
set_option maxRecDepth 100000 in
theorem zq_90_3 : ∀ e ∈ zm_c90_3, zm_okq 90 e.2 := List.forall_mem_cons.mpr ⟨trivial, List.forall_mem_cons.mpr ⟨trivial, List.forall_mem_cons.mpr ⟨⟨_, _, _, rfl, by decide, zm_f5.1, zm_f5.2.1, zm_f5.2.2, Or.inl ⟨_, zw_757, Or.inl rfl⟩⟩, List.forall_mem_cons.mpr ⟨trivial, List.forall_mem_cons.mpr ⟨trivial, List.forall_mem_cons.mpr ⟨trivial, fun _ h => absurd h List.not_mem_nil⟩⟩⟩⟩⟩⟩
set_option maxRecDepth 100000 in
theorem zq_90_4 : ∀ e ∈ zm_c90_4, zm_okq 90 e.2 := List.forall_mem_cons.mpr ⟨trivial, List.forall_mem_cons.mpr ⟨⟨⟨_, _, _, rfl, by decide, zm_f5.1, zm_f5.2.1, zm_f5.2.2, Or.inl ⟨_, zw_732, Or.inl rfl⟩⟩, zm_okw_n rfl rfl⟩, List.forall_mem_cons.mpr ⟨trivial, List.forall_mem_cons.mpr ⟨trivial, List.forall_mem_cons.mpr ⟨trivial, List.forall_mem_cons.mpr ⟨trivial, fun _ h => absurd h List.not_mem_nil⟩⟩⟩⟩⟩⟩
set_option maxRecDepth 100000 in
theorem zq_90_5 : ∀ e ∈ zm_c90_5, zm_okq 90 e.2 := List.forall_mem_cons.mpr ⟨⟨_, _, _, rfl, by decide, zm_f5.1, zm_f5.2.1, zm_f5.2.2, Or.inl ⟨_, zw_757, Or.inl rfl⟩⟩, List.forall_mem_cons.mpr ⟨trivial, List.forall_mem_cons.mpr ⟨trivial, List.forall_mem_cons.mpr ⟨trivial, List.forall_mem_cons.mpr ⟨trivial, List.forall_mem_cons.mpr ⟨trivial, fun _ h => absurd h List.not_mem_nil⟩⟩⟩⟩⟩⟩
set_option maxRecDepth 100000 in
theorem zq_90_6 : ∀ e ∈ zm_c90_6, zm_okq 90 e.2 := List.forall_mem_cons.mpr ⟨trivial, List.forall_mem_cons.mpr ⟨trivial, List.forall_mem_cons.mpr ⟨trivial, List.forall_mem_cons.mpr ⟨trivial, List.forall_mem_cons.mpr ⟨trivial, List.forall_mem_cons.mpr ⟨trivial, fun _ h => absurd h List.not_mem_nil⟩⟩⟩⟩⟩⟩
set_option maxRecDepth 100000 in
theorem zq_90_7 : ∀ e ∈ zm_c90_7, zm_okq 90 e.2 := List.forall_mem_cons.mpr ⟨trivial, List.forall_mem_cons.mpr ⟨trivial, List.forall_mem_cons.mpr ⟨trivial, List.forall_mem_cons.mpr ⟨trivial, List.forall_mem_cons.mpr ⟨⟨_, _, _, rfl, by decide, zm_f5.1, zm_f5.2.1, zm_f5.2.2, Or.inl ⟨_, zw_757, Or.inl rfl⟩⟩, List.forall_mem_cons.mpr ⟨trivial, fun _ h => absurd h List.not_mem_nil⟩⟩⟩⟩⟩⟩
set_option maxRecDepth 100000 in
theorem zq_90_8 : ∀ e ∈ zm_c90_8, zm_okq 90 e.2 := List.forall_mem_cons.mpr ⟨trivial, List.forall_mem_cons.mpr ⟨trivial, List.forall_mem_cons.mpr ⟨trivial, List.forall_mem_cons.mpr ⟨⟨_, _, _, rfl, by decide, zm_f5.1, zm_f5.2.1, zm_f5.2.2, Or.inl ⟨_, zw_757, Or.inl rfl⟩⟩, List.forall_mem_cons.mpr ⟨trivial, List.forall_mem_cons.mpr ⟨trivial, fun _ h => absurd h List.not_mem_nil⟩⟩⟩⟩⟩⟩
set_option maxRecDepth 100000 in
theorem zq_90_9 : ∀ e ∈ zm_c90_9, zm_okq 90 e.2 := List.forall_mem_cons.mpr ⟨trivial, List.forall_mem_cons.mpr ⟨trivial, List.forall_mem_cons.mpr ⟨trivial, List.forall_mem_cons.mpr ⟨⟨⟨_, _, _, rfl, by decide, zm_f5.1, zm_f5.2.1, zm_f5.2.2, Or.inl ⟨_, zw_732, Or.inl rfl⟩⟩, zm_okw_n rfl rfl⟩, List.forall_mem_cons.mpr ⟨trivial, List.forall_mem_cons.mpr ⟨trivial, fun _ h => absurd h List.not_mem_nil⟩⟩⟩⟩⟩⟩
set_option maxRecDepth 100000 in
theorem zq_90_10 : ∀ e ∈ zm_c90_10, zm_okq 90 e.2 := List.forall_mem_cons.mpr ⟨trivial, List.forall_mem_cons.mpr ⟨trivial, List.forall_mem_cons.mpr ⟨trivial, List.forall_mem_cons.mpr ⟨trivial, List.forall_mem_cons.mpr ⟨⟨_, _, _, rfl, by decide, zm_f5.1, zm_f5.2.1, zm_f5.2.2, Or.inl ⟨_, zw_758, Or.inl rfl⟩⟩, List.forall_mem_cons.mpr ⟨trivial, fun _ h => absurd h List.not_mem_nil⟩⟩⟩⟩⟩⟩
set_option maxRecDepth 100000 in
theorem zq_90_11 : ∀ e ∈ zm_c90_11, zm_okq 90 e.2 := List.forall_mem_cons.mpr ⟨trivial, List.forall_mem_cons.mpr ⟨⟨_, _, _, rfl, by decide, zm_f5.1, zm_f5.2.1, zm_f5.2.2, Or.inl ⟨_, zw_759, Or.inl rfl⟩⟩, List.forall_mem_cons.mpr ⟨trivial, List.forall_mem_cons.mpr ⟨trivial, List.forall_mem_cons.mpr ⟨trivial, List.forall_mem_cons.mpr ⟨trivial, fun _ h => absurd h List.not_mem_nil⟩⟩⟩⟩⟩⟩
set_option maxRecDepth 100000 in
theorem zq_90_12 : ∀ e ∈ zm_c90_12, zm_okq 90 e.2 := List.forall_mem_cons.mpr ⟨trivial, List.forall_mem_cons.mpr ⟨trivial, List.forall_mem_cons.mpr ⟨trivial, List.forall_mem_cons.mpr ⟨trivial, List.forall_mem_cons.mpr ⟨trivial, List.forall_mem_cons.mpr ⟨trivial, fun _ h => absurd h List.not_mem_nil⟩⟩⟩⟩⟩⟩
set_option maxRecDepth 100000 in
theorem zq_90_13 : ∀ e ∈ zm_c90_13, zm_okq 90 e.2 := List.forall_mem_cons.mpr ⟨trivial, List.forall_mem_cons.mpr ⟨trivial, List.forall_mem_cons.mpr ⟨trivial, List.forall_mem_cons.mpr ⟨trivial, List.forall_mem_cons.mpr ⟨trivial, List.forall_mem_cons.mpr ⟨trivial, fun _ h => absurd h List.not_mem_nil⟩⟩⟩⟩⟩⟩
set_option maxRecDepth 100000 in
theorem zq_90_14 : ∀ e ∈ zm_c90_14, zm_okq 90 e.2 := List.forall_mem_cons.mpr ⟨⟨_, _, _, rfl, by decide, zm_f5.1, zm_f5.2.1, zm_f5.2.2, Or.inl ⟨_, zw_748, Or.inl rfl⟩⟩, List.forall_mem_cons.mpr ⟨trivial, List.forall_mem_cons.mpr ⟨trivial, List.forall_mem_cons.mpr ⟨trivial, List.forall_mem_cons.mpr ⟨trivial, List.forall_mem_cons.mpr ⟨trivial, fun _ h => absurd h List.not_mem_nil⟩⟩⟩⟩⟩⟩
set_option maxRecDepth 100000 in
theorem zq_90_15 : ∀ e ∈ zm_c90_15, zm_okq 90 e.2 := List.forall_mem_cons.mpr ⟨⟨_, _, _, rfl, by decide, zm_f5.1, zm_f5.2.1, zm_f5.2.2, Or.inl ⟨_, zw_758, Or.inl rfl⟩⟩, List.forall_mem_cons.mpr ⟨trivial, List.forall_mem_cons.mpr ⟨trivial, List.forall_mem_cons.mpr ⟨trivial, List.forall_mem_cons.mpr ⟨trivial, List.forall_mem_cons.mpr ⟨trivial, fun _ h => absurd h List.not_mem_nil⟩⟩⟩⟩⟩⟩
set_option maxRecDepth 100000 in
theorem zq_90_16 : ∀ e ∈ zm_c90_16, zm_okq 90 e.2 := List.forall_mem_cons.mpr ⟨trivial, List.forall_mem_cons.mpr ⟨trivial, List.forall_mem_cons.mpr ⟨⟨_, _, _, rfl, by decide, zm_f5.1, zm_f5.2.1, zm_f5.2.2, Or.inl ⟨_, zw_747, Or.inl rfl⟩⟩, List.forall_mem_cons.mpr ⟨trivial, List.forall_mem_cons.mpr ⟨trivial, List.forall_mem_cons.mpr ⟨trivial, fun _ h => absurd h List.not_mem_nil⟩⟩⟩⟩⟩⟩
set_option maxRecDepth 100000 in
theorem zq_90_17 : ∀ e ∈ zm_c90_17, zm_okq 90 e.2 := List.forall_mem_cons.mpr ⟨trivial, List.forall_mem_cons.mpr ⟨trivial, List.forall_mem_cons.mpr ⟨⟨_, _, _, rfl, by decide, zm_f5.1, zm_f5.2.1, zm_f5.2.2, Or.inl ⟨_, zw_748, Or.inl rfl⟩⟩, List.forall_mem_cons.mpr ⟨trivial, List.forall_mem_cons.mpr ⟨trivial, List.forall_mem_cons.mpr ⟨trivial, fun _ h => absurd h List.not_mem_nil⟩⟩⟩⟩⟩⟩
set_option maxRecDepth 100000 in
theorem zq_90_18 : ∀ e ∈ zm_c90_18, zm_okq 90 e.2 := List.forall_mem_cons.mpr ⟨trivial, List.forall_mem_cons.mpr ⟨trivial, List.forall_mem_cons.mpr ⟨⟨_, _, _, rfl, by decide, zm_f5.1, zm_f5.2.1, zm_f5.2.2, Or.inl ⟨_, zw_749, Or.inl rfl⟩⟩, List.forall_mem_cons.mpr ⟨trivial, List.forall_mem_cons.mpr ⟨trivial, List.forall_mem_cons.mpr ⟨⟨_, _, _, rfl, by decide, zm_f5.1, zm_f5.2.1, zm_f5.2.2, Or.inl ⟨_, zw_758, Or.inl rfl⟩⟩, fun _ h => absurd h List.not_mem_nil⟩⟩⟩⟩⟩⟩
set_option maxRecDepth 100000 in
theorem zq_90_19 : ∀ e ∈ zm_c90_19, zm_okq 90 e.2 := List.forall_mem_cons.mpr ⟨trivial, List.forall_mem_cons.mpr ⟨trivial, List.forall_mem_cons.mpr ⟨⟨_, _, _, rfl, by decide, zm_f5.1, zm_f5.2.1, zm_f5.2.2, Or.inl ⟨_, zw_748, Or.inl rfl⟩⟩, List.forall_mem_cons.mpr ⟨trivial, List.forall_mem_cons.mpr ⟨trivial, List.forall_mem_cons.mpr ⟨trivial, fun _ h => absurd h List.not_mem_nil⟩⟩⟩⟩⟩⟩
set_option maxRecDepth 100000 in
theorem zq_90_20 : ∀ e ∈ zm_c90_20, zm_okq 90 e.2 := List.forall_mem_cons.mpr ⟨trivial, List.forall_mem_cons.mpr ⟨trivial, List.forall_mem_cons.mpr ⟨trivial, List.forall_mem_cons.mpr ⟨trivial, List.forall_mem_cons.mpr ⟨trivial, List.forall_mem_cons.mpr ⟨trivial, fun _ h => absurd h List.not_mem_nil⟩⟩⟩⟩⟩⟩
set_option maxRecDepth 100000 in
theorem zq_90_21 : ∀ e ∈ zm_c90_21, zm_okq 90 e.2 := List.forall_mem_cons.mpr ⟨trivial, List.forall_mem_cons.mpr ⟨⟨_, _, _, rfl, by decide, zm_f5.1, zm_f5.2.1, zm_f5.2.2, Or.inl ⟨_, zw_747, Or.inl rfl⟩⟩, List.forall_mem_cons.mpr ⟨trivial, List.forall_mem_cons.mpr ⟨trivial, List.forall_mem_cons.mpr ⟨trivial, List.forall_mem_cons.mpr ⟨trivial, fun _ h => absurd h List.not_mem_nil⟩⟩⟩⟩⟩⟩
set_option maxRecDepth 100000 in
theorem zq_90_22 : ∀ e ∈ zm_c90_22, zm_okq 90 e.2 := List.forall_mem_cons.mpr ⟨trivial, List.forall_mem_cons.mpr ⟨trivial, List.forall_mem_cons.mpr ⟨trivial, List.forall_mem_cons.mpr ⟨⟨_, _, _, rfl, by decide, zm_f5.1, zm_f5.2.1, zm_f5.2.2, Or.inl ⟨_, zw_749, Or.inl rfl⟩⟩, List.forall_mem_cons.mpr ⟨trivial, List.forall_mem_cons.mpr ⟨trivial, fun _ h => absurd h List.not_mem_nil⟩⟩⟩⟩⟩⟩
set_option maxRecDepth 100000 in
theorem zq_90_23 : ∀ e ∈ zm_c90_23, zm_okq 90 e.2 := List.forall_mem_cons.mpr ⟨trivial, List.forall_mem_cons.mpr ⟨⟨_, _, _, rfl, by decide, zm_f5.1, zm_f5.2.1, zm_f5.2.2, Or.inl ⟨_, zw_758, Or.inl rfl⟩⟩, List.forall_mem_cons.mpr ⟨trivial, List.forall_mem_cons.mpr ⟨trivial, List.forall_mem_cons.mpr ⟨trivial, List.forall_mem_cons.mpr ⟨⟨_, _, _, rfl, by decide, zm_f5.1, zm_f5.2.1, zm_f5.2.2, Or.inl ⟨_, zw_732, Or.inl rfl⟩⟩, fun _ h => absurd h List.not_mem_nil⟩⟩⟩⟩⟩⟩
set_option maxRecDepth 100000 in
theorem zq_90_24 : ∀ e ∈ zm_c90_24, zm_okq 90 e.2 := List.forall_mem_cons.mpr ⟨trivial, List.forall_mem_cons.mpr ⟨trivial, List.forall_mem_cons.mpr ⟨trivial, List.forall_mem_cons.mpr ⟨trivial, List.forall_mem_cons.mpr ⟨trivial, List.forall_mem_cons.mpr ⟨trivial, fun _ h => absurd h List.not_mem_nil⟩⟩⟩⟩⟩⟩
set_option maxRecDepth 100000 in
theorem zq_90_25 : ∀ e ∈ zm_c90_25, zm_okq 90 e.2 := List.forall_mem_cons.mpr ⟨trivial, fun _ h => absurd h List.not_mem_nil⟩
set_option maxRecDepth 100000 in
theorem zq_91_0 : ∀ e ∈ zm_c91_0, zm_okq 91 e.2 := List.forall_mem_cons.mpr ⟨trivial, List.forall_mem_cons.mpr ⟨⟨_, _, _, rfl, by decide, zm_f5.1, zm_f5.2.1, zm_f5.2.2, Or.inl ⟨_, zw_757, Or.inl rfl⟩⟩, List.forall_mem_cons.mpr ⟨trivial, List.forall_mem_cons.mpr ⟨trivial, List.forall_mem_cons.mpr ⟨trivial, List.forall_mem_cons.mpr ⟨trivial, fun _ h => absurd h List.not_mem_nil⟩⟩⟩⟩⟩⟩
set_option maxRecDepth 100000 in
theorem zq_91_1 : ∀ e ∈ zm_c91_1, zm_okq 91 e.2 := List.forall_mem_cons.mpr ⟨⟨⟨_, _, _, rfl, by decide, zm_f5.1, zm_f5.2.1, zm_f5.2.2, Or.inl ⟨_, zw_732, Or.inl rfl⟩⟩, zm_okw_n rfl rfl⟩, List.forall_mem_cons.mpr ⟨trivial, List.forall_mem_cons.mpr ⟨trivial, List.forall_mem_cons.mpr ⟨⟨_, _, _, rfl, by decide, zm_f5.1, zm_f5.2.1, zm_f5.2.2, Or.inl ⟨_, zw_758, Or.inl rfl⟩⟩, List.forall_mem_cons.mpr ⟨trivial, List.forall_mem_cons.mpr ⟨trivial, fun _ h => absurd h List.not_mem_nil⟩⟩⟩⟩⟩⟩
set_option maxRecDepth 100000 in
theorem zq_91_2 : ∀ e ∈ zm_c91_2, zm_okq 91 e.2 := List.forall_mem_cons.mpr ⟨⟨_, _, _, rfl, by decide, zm_f5.1, zm_f5.2.1, zm_f5.2.2, Or.inl ⟨_, zw_746, Or.inl rfl⟩⟩, List.forall_mem_cons.mpr ⟨trivial, List.forall_mem_cons.mpr ⟨trivial, List.forall_mem_cons.mpr ⟨trivial, List.forall_mem_cons.mpr ⟨trivial, List.forall_mem_cons.mpr ⟨⟨_, _, _, rfl, by decide, zm_f5.1, zm_f5.2.1, zm_f5.2.2, Or.inl ⟨_, zw_741, Or.inl rfl⟩⟩, fun _ h => absurd h List.not_mem_nil⟩⟩⟩⟩⟩⟩
set_option maxRecDepth 100000 in
theorem zq_91_3 : ∀ e ∈ zm_c91_3, zm_okq 91 e.2 := List.forall_mem_cons.mpr ⟨trivial, List.forall_mem_cons.mpr ⟨⟨_, _, _, rfl, by decide, zm_f5.1, zm_f5.2.1, zm_f5.2.2, Or.inl ⟨_, zw_745, Or.inl rfl⟩⟩, List.forall_mem_cons.mpr ⟨trivial, List.forall_mem_cons.mpr ⟨trivial, List.forall_mem_cons.mpr ⟨trivial, List.forall_mem_cons.mpr ⟨trivial, fun _ h => absurd h List.not_mem_nil⟩⟩⟩⟩⟩⟩
set_option maxRecDepth 100000 in
theorem zq_91_4 : ∀ e ∈ zm_c91_4, zm_okq 91 e.2 := List.forall_mem_cons.mpr ⟨trivial, List.forall_mem_cons.mpr ⟨trivial, List.forall_mem_cons.mpr ⟨trivial, List.forall_mem_cons.mpr ⟨⟨_, _, _, rfl, by decide, zm_f5.1, zm_f5.2.1, zm_f5.2.2, Or.inl ⟨_, zw_747, Or.inl rfl⟩⟩, List.forall_mem_cons.mpr ⟨trivial, List.forall_mem_cons.mpr ⟨trivial, fun _ h => absurd h List.not_mem_nil⟩⟩⟩⟩⟩⟩
set_option maxRecDepth 100000 in
theorem zq_91_5 : ∀ e ∈ zm_c91_5, zm_okq 91 e.2 := List.forall_mem_cons.mpr ⟨trivial, List.forall_mem_cons.mpr ⟨trivial, List.forall_mem_cons.mpr ⟨trivial, List.forall_mem_cons.mpr ⟨⟨_, _, _, rfl, by decide, zm_f5.1, zm_f5.2.1, zm_f5.2.2, Or.inl ⟨_, zw_742, Or.inl rfl⟩⟩, List.forall_mem_cons.mpr ⟨trivial, List.forall_mem_cons.mpr ⟨⟨_, _, _, rfl, by decide, zm_f5.1, zm_f5.2.1, zm_f5.2.2, Or.inl ⟨_, zw_745, Or.inl rfl⟩⟩, fun _ h => absurd h List.not_mem_nil⟩⟩⟩⟩⟩⟩
set_option maxRecDepth 100000 in
theorem zq_91_6 : ∀ e ∈ zm_c91_6, zm_okq 91 e.2 := List.forall_mem_cons.mpr ⟨trivial, List.forall_mem_cons.mpr ⟨⟨_, _, _, rfl, by decide, zm_f5.1, zm_f5.2.1, zm_f5.2.2, Or.inl ⟨_, zw_759, Or.inl rfl⟩⟩, List.forall_mem_cons.mpr ⟨trivial, List.forall_mem_cons.mpr ⟨trivial, List.forall_mem_cons.mpr ⟨trivial, List.forall_mem_cons.mpr ⟨⟨_, _, _, rfl, by decide, zm_f5.1, zm_f5.2.1, zm_f5.2.2, Or.inl ⟨_, zw_745, Or.inl rfl⟩⟩, fun _ h => absurd h List.not_mem_nil⟩⟩⟩⟩⟩⟩
set_option maxRecDepth 100000 in
theorem zq_91_7 : ∀ e ∈ zm_c91_7, zm_okq 91 e.2 := List.forall_mem_cons.mpr ⟨trivial, List.forall_mem_cons.mpr ⟨trivial, List.forall_mem_cons.mpr ⟨⟨⟨_, _, _, rfl, by decide, zm_f5.1, zm_f5.2.1, zm_f5.2.2, Or.inl ⟨_, zw_745, Or.inl rfl⟩⟩, zm_okw_n rfl rfl⟩, List.forall_mem_cons.mpr ⟨trivial, List.forall_mem_cons.mpr ⟨⟨_, _, _, rfl, by decide, zm_f5.1, zm_f5.2.1, zm_f5.2.2, Or.inl ⟨_, zw_745, Or.inl rfl⟩⟩, List.forall_mem_cons.mpr ⟨trivial, fun _ h => absurd h List.not_mem_nil⟩⟩⟩⟩⟩⟩
set_option maxRecDepth 100000 in
theorem zq_91_8 : ∀ e ∈ zm_c91_8, zm_okq 91 e.2 := List.forall_mem_cons.mpr ⟨trivial, List.forall_mem_cons.mpr ⟨trivial, List.forall_mem_cons.mpr ⟨trivial, List.forall_mem_cons.mpr ⟨trivial, List.forall_mem_cons.mpr ⟨trivial, List.forall_mem_cons.mpr ⟨trivial, fun _ h => absurd h List.not_mem_nil⟩⟩⟩⟩⟩⟩
set_option maxRecDepth 100000 in
theorem zq_91_9 : ∀ e ∈ zm_c91_9, zm_okq 91 e.2 := List.forall_mem_cons.mpr ⟨trivial, List.forall_mem_cons.mpr ⟨⟨_, _, _, rfl, by decide, zm_f5.1, zm_f5.2.1, zm_f5.2.2, Or.inl ⟨_, zw_727, Or.inl rfl⟩⟩, List.forall_mem_cons.mpr ⟨trivial, List.forall_mem_cons.mpr ⟨trivial, List.forall_mem_cons.mpr ⟨trivial, List.forall_mem_cons.mpr ⟨trivial, fun _ h => absurd h List.not_mem_nil⟩⟩⟩⟩⟩⟩
set_option maxRecDepth 100000 in
theorem zq_91_10 : ∀ e ∈ zm_c91_10, zm_okq 91 e.2 := List.forall_mem_cons.mpr ⟨trivial, List.forall_mem_cons.mpr ⟨⟨⟨_, _, _, rfl, by decide, zm_f5.1, zm_f5.2.1, zm_f5.2.2, Or.inl ⟨_, zw_732, Or.inl rfl⟩⟩, zm_okw_n rfl rfl⟩, List.forall_mem_cons.mpr ⟨trivial, List.forall_mem_cons.mpr ⟨trivial, List.forall_mem_cons.mpr ⟨trivial, List.forall_mem_cons.mpr ⟨⟨_, _, _, rfl, by decide, zm_f5.1, zm_f5.2.1, zm_f5.2.2, Or.inl ⟨_, zw_725, Or.inl rfl⟩⟩, fun _ h => absurd h List.not_mem_nil⟩⟩⟩⟩⟩⟩
set_option maxRecDepth 100000 in
theorem zq_91_11 : ∀ e ∈ zm_c91_11, zm_okq 91 e.2 := List.forall_mem_cons.mpr ⟨trivial, List.forall_mem_cons.mpr ⟨trivial, List.forall_mem_cons.mpr ⟨trivial, List.forall_mem_cons.mpr ⟨trivial, List.forall_mem_cons.mpr ⟨trivial, List.forall_mem_cons.mpr ⟨trivial, fun _ h => absurd h List.not_mem_nil⟩⟩⟩⟩⟩⟩
set_option maxRecDepth 100000 in
theorem zq_91_12 : ∀ e ∈ zm_c91_12, zm_okq 91 e.2 := List.forall_mem_cons.mpr ⟨trivial, List.forall_mem_cons.mpr ⟨trivial, List.forall_mem_cons.mpr ⟨trivial, List.forall_mem_cons.mpr ⟨trivial, List.forall_mem_cons.mpr ⟨trivial, List.forall_mem_cons.mpr ⟨trivial, fun _ h => absurd h List.not_mem_nil⟩⟩⟩⟩⟩⟩
set_option maxRecDepth 100000 in
theorem zq_91_13 : ∀ e ∈ zm_c91_13, zm_okq 91 e.2 := List.forall_mem_cons.mpr ⟨trivial, List.forall_mem_cons.mpr ⟨trivial, List.forall_mem_cons.mpr ⟨trivial, fun _ h => absurd h List.not_mem_nil⟩⟩⟩
set_option maxRecDepth 100000 in
theorem zq_92_0 : ∀ e ∈ zm_c92_0, zm_okq 92 e.2 := List.forall_mem_cons.mpr ⟨trivial, List.forall_mem_cons.mpr ⟨⟨_, _, _, rfl, by decide, zm_f5.1, zm_f5.2.1, zm_f5.2.2, Or.inl ⟨_, zw_721, Or.inl rfl⟩⟩, List.forall_mem_cons.mpr ⟨trivial, List.forall_mem_cons.mpr ⟨trivial, List.forall_mem_cons.mpr ⟨trivial, List.forall_mem_cons.mpr ⟨trivial, fun _ h => absurd h List.not_mem_nil⟩⟩⟩⟩⟩⟩
set_option maxRecDepth 100000 in
theorem zq_92_1 : ∀ e ∈ zm_c92_1, zm_okq 92 e.2 := List.forall_mem_cons.mpr ⟨trivial, List.forall_mem_cons.mpr ⟨trivial, List.forall_mem_cons.mpr ⟨trivial, List.forall_mem_cons.mpr ⟨trivial, List.forall_mem_cons.mpr ⟨⟨_, _, _, rfl, by decide, zm_f5.1, zm_f5.2.1, zm_f5.2.2, Or.inl ⟨_, zw_721, Or.inl rfl⟩⟩, List.forall_mem_cons.mpr ⟨trivial, fun _ h => absurd h List.not_mem_nil⟩⟩⟩⟩⟩⟩
set_option maxRecDepth 100000 in
theorem zq_92_2 : ∀ e ∈ zm_c92_2, zm_okq 92 e.2 := List.forall_mem_cons.mpr ⟨trivial, List.forall_mem_cons.mpr ⟨trivial, List.forall_mem_cons.mpr ⟨trivial, List.forall_mem_cons.mpr ⟨trivial, List.forall_mem_cons.mpr ⟨trivial, List.forall_mem_cons.mpr ⟨⟨_, _, _, rfl, by decide, zm_f5.1, zm_f5.2.1, zm_f5.2.2, Or.inl ⟨_, zw_733, Or.inl rfl⟩⟩, fun _ h => absurd h List.not_mem_nil⟩⟩⟩⟩⟩⟩
set_option maxRecDepth 100000 in
theorem zq_92_3 : ∀ e ∈ zm_c92_3, zm_okq 92 e.2 := List.forall_mem_cons.mpr ⟨trivial, List.forall_mem_cons.mpr ⟨⟨_, _, _, rfl, by decide, zm_f5.1, zm_f5.2.1, zm_f5.2.2, Or.inl ⟨_, zw_743, Or.inl rfl⟩⟩, List.forall_mem_cons.mpr ⟨trivial, List.forall_mem_cons.mpr ⟨trivial, List.forall_mem_cons.mpr ⟨trivial, List.forall_mem_cons.mpr ⟨⟨_, _, _, rfl, by decide, zm_f5.1, zm_f5.2.1, zm_f5.2.2, Or.inl ⟨_, zw_734, Or.inl rfl⟩⟩, fun _ h => absurd h List.not_mem_nil⟩⟩⟩⟩⟩⟩
set_option maxRecDepth 100000 in
theorem zq_92_4 : ∀ e ∈ zm_c92_4, zm_okq 92 e.2 := List.forall_mem_cons.mpr ⟨trivial, List.forall_mem_cons.mpr ⟨⟨_, _, _, rfl, by decide, zm_f5.1, zm_f5.2.1, zm_f5.2.2, Or.inl ⟨_, zw_743, Or.inl rfl⟩⟩, List.forall_mem_cons.mpr ⟨trivial, List.forall_mem_cons.mpr ⟨trivial, List.forall_mem_cons.mpr ⟨trivial, List.forall_mem_cons.mpr ⟨⟨_, _, _, rfl, by decide, zm_f5.1, zm_f5.2.1, zm_f5.2.2, Or.inl ⟨_, zw_735, Or.inl rfl⟩⟩, fun _ h => absurd h List.not_mem_nil⟩⟩⟩⟩⟩⟩
set_option maxRecDepth 100000 in
theorem zq_92_5 : ∀ e ∈ zm_c92_5, zm_okq 92 e.2 := List.forall_mem_cons.mpr ⟨trivial, List.forall_mem_cons.mpr ⟨⟨_, _, _, rfl, by decide, zm_f5.1, zm_f5.2.1, zm_f5.2.2, Or.inl ⟨_, zw_743, Or.inl rfl⟩⟩, List.forall_mem_cons.mpr ⟨trivial, List.forall_mem_cons.mpr ⟨trivial, List.forall_mem_cons.mpr ⟨trivial, List.forall_mem_cons.mpr ⟨trivial, fun _ h => absurd h List.not_mem_nil⟩⟩⟩⟩⟩⟩
set_option maxRecDepth 100000 in
theorem zq_92_6 : ∀ e ∈ zm_c92_6, zm_okq 92 e.2 := List.forall_mem_cons.mpr ⟨⟨_, _, _, rfl, by decide, zm_f5.1, zm_f5.2.1, zm_f5.2.2, Or.inl ⟨_, zw_743, Or.inl rfl⟩⟩, List.forall_mem_cons.mpr ⟨trivial, List.forall_mem_cons.mpr ⟨trivial, List.forall_mem_cons.mpr ⟨⟨⟨_, _, _, rfl, by decide, zm_f5.1, zm_f5.2.1, zm_f5.2.2, Or.inl ⟨_, zw_743, Or.inl rfl⟩⟩, zm_okw_n rfl rfl⟩, List.forall_mem_cons.mpr ⟨trivial, List.forall_mem_cons.mpr ⟨⟨_, _, _, rfl, by decide, zm_f5.1, zm_f5.2.1, zm_f5.2.2, Or.inl ⟨_, zw_743, Or.inl rfl⟩⟩, fun _ h => absurd h List.not_mem_nil⟩⟩⟩⟩⟩⟩
set_option maxRecDepth 100000 in
theorem zq_92_7 : ∀ e ∈ zm_c92_7, zm_okq 92 e.2 := List.forall_mem_cons.mpr ⟨trivial, List.forall_mem_cons.mpr ⟨trivial, List.forall_mem_cons.mpr ⟨trivial, fun _ h => absurd h List.not_mem_nil⟩⟩⟩
set_option maxRecDepth 100000 in
theorem zq_93_0 : ∀ e ∈ zm_c93_0, zm_okq 93 e.2 := List.forall_mem_cons.mpr ⟨trivial, List.forall_mem_cons.mpr ⟨trivial, List.forall_mem_cons.mpr ⟨trivial, List.forall_mem_cons.mpr ⟨trivial, List.forall_mem_cons.mpr ⟨trivial, List.forall_mem_cons.mpr ⟨⟨_, _, _, rfl, by decide, zm_f5.1, zm_f5.2.1, zm_f5.2.2, Or.inl ⟨_, zw_739, Or.inl rfl⟩⟩, fun _ h => absurd h List.not_mem_nil⟩⟩⟩⟩⟩⟩
set_option maxRecDepth 100000 in
theorem zq_93_1 : ∀ e ∈ zm_c93_1, zm_okq 93 e.2 := List.forall_mem_cons.mpr ⟨trivial, List.forall_mem_cons.mpr ⟨trivial, List.forall_mem_cons.mpr ⟨trivial, List.forall_mem_cons.mpr ⟨trivial, List.forall_mem_cons.mpr ⟨trivial, List.forall_mem_cons.mpr ⟨trivial, fun _ h => absurd h List.not_mem_nil⟩⟩⟩⟩⟩⟩
set_option maxRecDepth 100000 in
theorem zq_93_2 : ∀ e ∈ zm_c93_2, zm_okq 93 e.2 := List.forall_mem_cons.mpr ⟨trivial, List.forall_mem_cons.mpr ⟨⟨_, _, _, rfl, by decide, zm_f5.1, zm_f5.2.1, zm_f5.2.2, Or.inl ⟨_, zw_740, Or.inl rfl⟩⟩, List.forall_mem_cons.mpr ⟨trivial, List.forall_mem_cons.mpr ⟨trivial, List.forall_mem_cons.mpr ⟨trivial, fun _ h => absurd h List.not_mem_nil⟩⟩⟩⟩⟩
set_option maxRecDepth 100000 in
theorem zq_94_0 : ∀ e ∈ zm_c94_0, zm_okq 94 e.2 := List.forall_mem_cons.mpr ⟨trivial, List.forall_mem_cons.mpr ⟨trivial, List.forall_mem_cons.mpr ⟨trivial, List.forall_mem_cons.mpr ⟨trivial, List.forall_mem_cons.mpr ⟨trivial, List.forall_mem_cons.mpr ⟨trivial, fun _ h => absurd h List.not_mem_nil⟩⟩⟩⟩⟩⟩
set_option maxRecDepth 100000 in
theorem zq_94_1 : ∀ e ∈ zm_c94_1, zm_okq 94 e.2 := List.forall_mem_cons.mpr ⟨trivial, List.forall_mem_cons.mpr ⟨trivial, List.forall_mem_cons.mpr ⟨⟨_, _, _, rfl, by decide, zm_f5.1, zm_f5.2.1, zm_f5.2.2, Or.inl ⟨_, zw_742, Or.inl rfl⟩⟩, List.forall_mem_cons.mpr ⟨trivial, List.forall_mem_cons.mpr ⟨trivial, List.forall_mem_cons.mpr ⟨trivial, fun _ h => absurd h List.not_mem_nil⟩⟩⟩⟩⟩⟩
set_option maxRecDepth 100000 in
theorem zq_94_2 : ∀ e ∈ zm_c94_2, zm_okq 94 e.2 := List.forall_mem_cons.mpr ⟨trivial, List.forall_mem_cons.mpr ⟨trivial, List.forall_mem_cons.mpr ⟨trivial, fun _ h => absurd h List.not_mem_nil⟩⟩⟩
set_option maxRecDepth 100000 in
theorem zq_95_0 : ∀ e ∈ zm_c95_0, zm_okq 95 e.2 := List.forall_mem_cons.mpr ⟨trivial, List.forall_mem_cons.mpr ⟨⟨_, _, _, rfl, by decide, zm_f5.1, zm_f5.2.1, zm_f5.2.2, Or.inl ⟨_, zw_753, Or.inl rfl⟩⟩, List.forall_mem_cons.mpr ⟨trivial, List.forall_mem_cons.mpr ⟨trivial, List.forall_mem_cons.mpr ⟨trivial, List.forall_mem_cons.mpr ⟨trivial, fun _ h => absurd h List.not_mem_nil⟩⟩⟩⟩⟩⟩
set_option maxRecDepth 100000 in
theorem zq_95_1 : ∀ e ∈ zm_c95_1, zm_okq 95 e.2 := List.forall_mem_cons.mpr ⟨⟨⟨_, _, _, rfl, by decide, zm_f5.1, zm_f5.2.1, zm_f5.2.2, Or.inl ⟨_, zw_732, Or.inl rfl⟩⟩, zm_okw_n rfl rfl⟩, List.forall_mem_cons.mpr ⟨trivial, List.forall_mem_cons.mpr ⟨trivial, List.forall_mem_cons.mpr ⟨trivial, List.forall_mem_cons.mpr ⟨⟨_, _, _, rfl, by decide, zm_f5.1, zm_f5.2.1, zm_f5.2.2, Or.inl ⟨_, zw_753, Or.inl rfl⟩⟩, List.forall_mem_cons.mpr ⟨trivial, fun _ h => absurd h List.not_mem_nil⟩⟩⟩⟩⟩⟩
set_option maxRecDepth 100000 in
theorem zq_95_2 : ∀ e ∈ zm_c95_2, zm_okq 95 e.2 := List.forall_mem_cons.mpr ⟨trivial, List.forall_mem_cons.mpr ⟨⟨⟨_, _, _, rfl, by decide, zm_f5.1, zm_f5.2.1, zm_f5.2.2, Or.inl ⟨_, zw_753, Or.inl rfl⟩⟩, zm_okw_n rfl rfl⟩, List.forall_mem_cons.mpr ⟨trivial, List.forall_mem_cons.mpr ⟨trivial, List.forall_mem_cons.mpr ⟨⟨_, _, _, rfl, by decide, zm_f5.1, zm_f5.2.1, zm_f5.2.2, Or.inl ⟨_, zw_754, Or.inl rfl⟩⟩, List.forall_mem_cons.mpr ⟨trivial, fun _ h => absurd h List.not_mem_nil⟩⟩⟩⟩⟩⟩
set_option maxRecDepth 100000 in
theorem zq_95_3 : ∀ e ∈ zm_c95_3, zm_okq 95 e.2 := List.forall_mem_cons.mpr ⟨trivial, List.forall_mem_cons.mpr ⟨⟨⟨_, _, _, rfl, by decide, zm_f5.1, zm_f5.2.1, zm_f5.2.2, Or.inl ⟨_, zw_754, Or.inl rfl⟩⟩, zm_okw_n rfl rfl⟩, List.forall_mem_cons.mpr ⟨trivial, List.forall_mem_cons.mpr ⟨trivial, List.forall_mem_cons.mpr ⟨trivial, List.forall_mem_cons.mpr ⟨⟨_, _, _, rfl, by decide, zm_f5.1, zm_f5.2.1, zm_f5.2.2, Or.inl ⟨_, zw_744, Or.inl rfl⟩⟩, fun _ h => absurd h List.not_mem_nil⟩⟩⟩⟩⟩⟩
set_option maxRecDepth 100000 in
theorem zq_95_4 : ∀ e ∈ zm_c95_4, zm_okq 95 e.2 := List.forall_mem_cons.mpr ⟨trivial, List.forall_mem_cons.mpr ⟨trivial, List.forall_mem_cons.mpr ⟨trivial, List.forall_mem_cons.mpr ⟨⟨_, _, _, rfl, by decide, zm_f5.1, zm_f5.2.1, zm_f5.2.2, Or.inl ⟨_, zw_744, Or.inl rfl⟩⟩, List.forall_mem_cons.mpr ⟨trivial, List.forall_mem_cons.mpr ⟨trivial, fun _ h => absurd h List.not_mem_nil⟩⟩⟩⟩⟩⟩
set_option maxRecDepth 100000 in
theorem zq_95_5 : ∀ e ∈ zm_c95_5, zm_okq 95 e.2 := List.forall_mem_cons.mpr ⟨⟨⟨_, _, _, rfl, by decide, zm_f5.1, zm_f5.2.1, zm_f5.2.2, Or.inl ⟨_, zw_744, Or.inl rfl⟩⟩, zm_okw_n rfl rfl⟩, List.forall_mem_cons.mpr ⟨trivial, List.forall_mem_cons.mpr ⟨trivial, List.forall_mem_cons.mpr ⟨trivial, List.forall_mem_cons.mpr ⟨trivial, List.forall_mem_cons.mpr ⟨trivial, fun _ h => absurd h List.not_mem_nil⟩⟩⟩⟩⟩⟩
set_option maxRecDepth 100000 in
theorem zq_95_6 : ∀ e ∈ zm_c95_6, zm_okq 95 e.2 := List.forall_mem_cons.mpr ⟨trivial, List.forall_mem_cons.mpr ⟨⟨_, _, _, rfl, by decide, zm_f5.1, zm_f5.2.1, zm_f5.2.2, Or.inl ⟨_, zw_739, Or.inl rfl⟩⟩, List.forall_mem_cons.mpr ⟨trivial, List.forall_mem_cons.mpr ⟨trivial, List.forall_mem_cons.mpr ⟨trivial, List.forall_mem_cons.mpr ⟨trivial, fun _ h => absurd h List.not_mem_nil⟩⟩⟩⟩⟩⟩
set_option maxRecDepth 100000 in
theorem zq_95_7 : ∀ e ∈ zm_c95_7, zm_okq 95 e.2 := List.forall_mem_cons.mpr ⟨trivial, List.forall_mem_cons.mpr ⟨trivial, List.forall_mem_cons.mpr ⟨trivial, List.forall_mem_cons.mpr ⟨trivial, List.forall_mem_cons.mpr ⟨trivial, List.forall_mem_cons.mpr ⟨trivial, fun _ h => absurd h List.not_mem_nil⟩⟩⟩⟩⟩⟩
set_option maxRecDepth 100000 in
theorem zq_95_8 : ∀ e ∈ zm_c95_8, zm_okq 95 e.2 := List.forall_mem_cons.mpr ⟨trivial, List.forall_mem_cons.mpr ⟨trivial, List.forall_mem_cons.mpr ⟨trivial, List.forall_mem_cons.mpr ⟨trivial, List.forall_mem_cons.mpr ⟨trivial, List.forall_mem_cons.mpr ⟨trivial, fun _ h => absurd h List.not_mem_nil⟩⟩⟩⟩⟩⟩
set_option maxRecDepth 100000 in
theorem zq_95_9 : ∀ e ∈ zm_c95_9, zm_okq 95 e.2 := List.forall_mem_cons.mpr ⟨trivial, List.forall_mem_cons.mpr ⟨⟨_, _, _, rfl, by decide, zm_f5.1, zm_f5.2.1, zm_f5.2.2, Or.inl ⟨_, zw_725, Or.inl rfl⟩⟩, List.forall_mem_cons.mpr ⟨trivial, List.forall_mem_cons.mpr ⟨trivial, List.forall_mem_cons.mpr ⟨trivial, List.forall_mem_cons.mpr ⟨trivial, fun _ h => absurd h List.not_mem_nil⟩⟩⟩⟩⟩⟩
set_option maxRecDepth 100000 in
theorem zq_95_10 : ∀ e ∈ zm_c95_10, zm_okq 95 e.2 := List.forall_mem_cons.mpr ⟨⟨_, _, _, rfl, by decide, zm_f5.1, zm_f5.2.1, zm_f5.2.2, Or.inl ⟨_, zw_739, Or.inl rfl⟩⟩, List.forall_mem_cons.mpr ⟨trivial, List.forall_mem_cons.mpr ⟨trivial, List.forall_mem_cons.mpr ⟨trivial, List.forall_mem_cons.mpr ⟨trivial, List.forall_mem_cons.mpr ⟨trivial, fun _ h => absurd h List.not_mem_nil⟩⟩⟩⟩⟩⟩
set_option maxRecDepth 100000 in
theorem zq_95_11 : ∀ e ∈ zm_c95_11, zm_okq 95 e.2 := List.forall_mem_cons.mpr ⟨trivial, List.forall_mem_cons.mpr ⟨⟨_, _, _, rfl, by decide, zm_f5.1, zm_f5.2.1, zm_f5.2.2, Or.inl ⟨_, zw_724, Or.inl rfl⟩⟩, List.forall_mem_cons.mpr ⟨trivial, List.forall_mem_cons.mpr ⟨trivial, List.forall_mem_cons.mpr ⟨trivial, List.forall_mem_cons.mpr ⟨trivial, fun _ h => absurd h List.not_mem_nil⟩⟩⟩⟩⟩⟩
set_option maxRecDepth 100000 in
theorem zq_95_12 : ∀ e ∈ zm_c95_12, zm_okq 95 e.2 := List.forall_mem_cons.mpr ⟨trivial, List.forall_mem_cons.mpr ⟨trivial, List.forall_mem_cons.mpr ⟨trivial, List.forall_mem_cons.mpr ⟨trivial, List.forall_mem_cons.mpr ⟨⟨_, _, _, rfl, by decide, zm_f5.1, zm_f5.2.1, zm_f5.2.2, Or.inl ⟨_, zw_740, Or.inl rfl⟩⟩, List.forall_mem_cons.mpr ⟨trivial, fun _ h => absurd h List.not_mem_nil⟩⟩⟩⟩⟩⟩
set_option maxRecDepth 100000 in
theorem zq_95_13 : ∀ e ∈ zm_c95_13, zm_okq 95 e.2 := List.forall_mem_cons.mpr ⟨trivial, List.forall_mem_cons.mpr ⟨trivial, List.forall_mem_cons.mpr ⟨trivial, List.forall_mem_cons.mpr ⟨trivial, List.forall_mem_cons.mpr ⟨trivial, List.forall_mem_cons.mpr ⟨⟨_, _, _, rfl, by decide, zm_f5.1, zm_f5.2.1, zm_f5.2.2, Or.inl ⟨_, zw_741, Or.inl rfl⟩⟩, fun _ h => absurd h List.not_mem_nil⟩⟩⟩⟩⟩⟩
set_option maxRecDepth 100000 in
theorem zq_95_14 : ∀ e ∈ zm_c95_14, zm_okq 95 e.2 := List.forall_mem_cons.mpr ⟨trivial, List.forall_mem_cons.mpr ⟨trivial, List.forall_mem_cons.mpr ⟨trivial, List.forall_mem_cons.mpr ⟨trivial, List.forall_mem_cons.mpr ⟨⟨_, _, _, rfl, by decide, zm_f5.1, zm_f5.2.1, zm_f5.2.2, Or.inl ⟨_, zw_742, Or.inl rfl⟩⟩, List.forall_mem_cons.mpr ⟨trivial, fun _ h => absurd h List.not_mem_nil⟩⟩⟩⟩⟩⟩
set_option maxRecDepth 100000 in
theorem zq_95_15 : ∀ e ∈ zm_c95_15, zm_okq 95 e.2 := List.forall_mem_cons.mpr ⟨trivial, List.forall_mem_cons.mpr ⟨trivial, List.forall_mem_cons.mpr ⟨trivial, List.forall_mem_cons.mpr ⟨trivial, List.forall_mem_cons.mpr ⟨trivial, List.forall_mem_cons.mpr ⟨⟨_, _, _, rfl, by decide, zm_f5.1, zm_f5.2.1, zm_f5.2.2, Or.inl ⟨_, zw_748, Or.inl rfl⟩⟩, fun _ h => absurd h List.not_mem_nil⟩⟩⟩⟩⟩⟩
set_option maxRecDepth 100000 in
theorem zq_95_16 : ∀ e ∈ zm_c95_16, zm_okq 95 e.2 := List.forall_mem_cons.mpr ⟨trivial, List.forall_mem_cons.mpr ⟨⟨_, _, _, rfl, by decide, zm_f5.1, zm_f5.2.1, zm_f5.2.2, Or.inl ⟨_, zw_751, Or.inl rfl⟩⟩, List.forall_mem_cons.mpr ⟨trivial, List.forall_mem_cons.mpr ⟨trivial, List.forall_mem_cons.mpr ⟨trivial, List.forall_mem_cons.mpr ⟨trivial, fun _ h => absurd h List.not_mem_nil⟩⟩⟩⟩⟩⟩
set_option maxRecDepth 100000 in
theorem zq_95_17 : ∀ e ∈ zm_c95_17, zm_okq 95 e.2 := List.forall_mem_cons.mpr ⟨⟨_, _, _, rfl, by decide, zm_f5.1, zm_f5.2.1, zm_f5.2.2, Or.inl ⟨_, zw_723, Or.inl rfl⟩⟩, List.forall_mem_cons.mpr ⟨trivial, List.forall_mem_cons.mpr ⟨trivial, List.forall_mem_cons.mpr ⟨trivial, List.forall_mem_cons.mpr ⟨trivial, List.forall_mem_cons.mpr ⟨trivial, fun _ h => absurd h List.not_mem_nil⟩⟩⟩⟩⟩⟩
set_option maxRecDepth 100000 in
theorem zq_96_0 : ∀ e ∈ zm_c96_0, zm_okq 96 e.2 := List.forall_mem_cons.mpr ⟨trivial, List.forall_mem_cons.mpr ⟨⟨_, _, _, rfl, by decide, zm_f5.1, zm_f5.2.1, zm_f5.2.2, Or.inl ⟨_, zw_735, Or.inl rfl⟩⟩, List.forall_mem_cons.mpr ⟨trivial, List.forall_mem_cons.mpr ⟨trivial, List.forall_mem_cons.mpr ⟨trivial, List.forall_mem_cons.mpr ⟨trivial, fun _ h => absurd h List.not_mem_nil⟩⟩⟩⟩⟩⟩
set_option maxRecDepth 100000 in
theorem zq_96_1 : ∀ e ∈ zm_c96_1, zm_okq 96 e.2 := List.forall_mem_cons.mpr ⟨trivial, List.forall_mem_cons.mpr ⟨trivial, List.forall_mem_cons.mpr ⟨⟨_, _, _, rfl, by decide, zm_f5.1, zm_f5.2.1, zm_f5.2.2, Or.inl ⟨_, zw_756, Or.inl rfl⟩⟩, List.forall_mem_cons.mpr ⟨trivial, List.forall_mem_cons.mpr ⟨trivial, List.forall_mem_cons.mpr ⟨⟨⟨_, _, _, rfl, by decide, zm_f5.1, zm_f5.2.1, zm_f5.2.2, Or.inl ⟨_, zw_756, Or.inl rfl⟩⟩, zm_okw_n rfl rfl⟩, fun _ h => absurd h List.not_mem_nil⟩⟩⟩⟩⟩⟩
set_option maxRecDepth 100000 in
theorem zq_96_2 : ∀ e ∈ zm_c96_2, zm_okq 96 e.2 := List.forall_mem_cons.mpr ⟨trivial, List.forall_mem_cons.mpr ⟨trivial, List.forall_mem_cons.mpr ⟨trivial, List.forall_mem_cons.mpr ⟨trivial, List.forall_mem_cons.mpr ⟨trivial, List.forall_mem_cons.mpr ⟨⟨_, _, _, rfl, by decide, zm_f5.1, zm_f5.2.1, zm_f5.2.2, Or.inl ⟨_, zw_735, Or.inl rfl⟩⟩, fun _ h => absurd h List.not_mem_nil⟩⟩⟩⟩⟩⟩
set_option maxRecDepth 100000 in
theorem zq_96_3 : ∀ e ∈ zm_c96_3, zm_okq 96 e.2 := List.forall_mem_cons.mpr ⟨trivial, List.forall_mem_cons.mpr ⟨trivial, List.forall_mem_cons.mpr ⟨trivial, List.forall_mem_cons.mpr ⟨trivial, List.forall_mem_cons.mpr ⟨trivial, List.forall_mem_cons.mpr ⟨trivial, fun _ h => absurd h List.not_mem_nil⟩⟩⟩⟩⟩⟩
set_option maxRecDepth 100000 in
theorem zq_96_4 : ∀ e ∈ zm_c96_4, zm_okq 96 e.2 := List.forall_mem_cons.mpr ⟨⟨⟨_, _, _, rfl, by decide, zm_f5.1, zm_f5.2.1, zm_f5.2.2, Or.inl ⟨_, zw_732, Or.inl rfl⟩⟩, zm_okw_n rfl rfl⟩, List.forall_mem_cons.mpr ⟨trivial, List.forall_mem_cons.mpr ⟨trivial, List.forall_mem_cons.mpr ⟨trivial, List.forall_mem_cons.mpr ⟨⟨_, _, _, rfl, by decide, zm_f5.1, zm_f5.2.1, zm_f5.2.2, Or.inl ⟨_, zw_755, Or.inl rfl⟩⟩, List.forall_mem_cons.mpr ⟨trivial, fun _ h => absurd h List.not_mem_nil⟩⟩⟩⟩⟩⟩
set_option maxRecDepth 100000 in
theorem zq_96_5 : ∀ e ∈ zm_c96_5, zm_okq 96 e.2 := List.forall_mem_cons.mpr ⟨trivial, List.forall_mem_cons.mpr ⟨⟨⟨_, _, _, rfl, by decide, zm_f5.1, zm_f5.2.1, zm_f5.2.2, Or.inl ⟨_, zw_755, Or.inl rfl⟩⟩, zm_okw_n rfl rfl⟩, List.forall_mem_cons.mpr ⟨trivial, List.forall_mem_cons.mpr ⟨⟨_, _, _, rfl, by decide, zm_f5.1, zm_f5.2.1, zm_f5.2.2, Or.inl ⟨_, zw_735, Or.inl rfl⟩⟩, List.forall_mem_cons.mpr ⟨trivial, List.forall_mem_cons.mpr ⟨trivial, fun _ h => absurd h List.not_mem_nil⟩⟩⟩⟩⟩⟩
set_option maxRecDepth 100000 in
theorem zq_96_6 : ∀ e ∈ zm_c96_6, zm_okq 96 e.2 := List.forall_mem_cons.mpr ⟨trivial, List.forall_mem_cons.mpr ⟨trivial, List.forall_mem_cons.mpr ⟨⟨_, _, _, rfl, by decide, zm_f5.1, zm_f5.2.1, zm_f5.2.2, Or.inl ⟨_, zw_750, Or.inl rfl⟩⟩, List.forall_mem_cons.mpr ⟨trivial, List.forall_mem_cons.mpr ⟨⟨_, _, _, rfl, by decide, zm_f5.1, zm_f5.2.1, zm_f5.2.2, Or.inl ⟨_, zw_751, Or.inl rfl⟩⟩, List.forall_mem_cons.mpr ⟨trivial, fun _ h => absurd h List.not_mem_nil⟩⟩⟩⟩⟩⟩
set_option maxRecDepth 100000 in
theorem zq_96_7 : ∀ e ∈ zm_c96_7, zm_okq 96 e.2 := List.forall_mem_cons.mpr ⟨trivial, List.forall_mem_cons.mpr ⟨trivial, List.forall_mem_cons.mpr ⟨⟨_, _, _, rfl, by decide, zm_f5.1, zm_f5.2.1, zm_f5.2.2, Or.inl ⟨_, zw_748, Or.inl rfl⟩⟩, List.forall_mem_cons.mpr ⟨trivial, List.forall_mem_cons.mpr ⟨⟨_, _, _, rfl, by decide, zm_f5.1, zm_f5.2.1, zm_f5.2.2, Or.inl ⟨_, zw_751, Or.inl rfl⟩⟩, List.forall_mem_cons.mpr ⟨trivial, fun _ h => absurd h List.not_mem_nil⟩⟩⟩⟩⟩⟩
set_option maxRecDepth 100000 in
theorem zq_96_8 : ∀ e ∈ zm_c96_8, zm_okq 96 e.2 := List.forall_mem_cons.mpr ⟨trivial, List.forall_mem_cons.mpr ⟨trivial, List.forall_mem_cons.mpr ⟨trivial, List.forall_mem_cons.mpr ⟨⟨_, _, _, rfl, by decide, zm_f5.1, zm_f5.2.1, zm_f5.2.2, Or.inl ⟨_, zw_733, Or.inl rfl⟩⟩, List.forall_mem_cons.mpr ⟨trivial, List.forall_mem_cons.mpr ⟨trivial, fun _ h => absurd h List.not_mem_nil⟩⟩⟩⟩⟩⟩
set_option maxRecDepth 100000 in
theorem zq_96_9 : ∀ e ∈ zm_c96_9, zm_okq 96 e.2 := List.forall_mem_cons.mpr ⟨trivial, List.forall_mem_cons.mpr ⟨⟨_, _, _, rfl, by decide, zm_f5.1, zm_f5.2.1, zm_f5.2.2, Or.inl ⟨_, zw_734, Or.inl rfl⟩⟩, List.forall_mem_cons.mpr ⟨trivial, List.forall_mem_cons.mpr ⟨trivial, List.forall_mem_cons.mpr ⟨trivial, List.forall_mem_cons.mpr ⟨trivial, fun _ h => absurd h List.not_mem_nil⟩⟩⟩⟩⟩⟩
set_option maxRecDepth 100000 in
theorem zq_97_0 : ∀ e ∈ zm_c97_0, zm_okq 97 e.2 := List.forall_mem_cons.mpr ⟨trivial, List.forall_mem_cons.mpr ⟨⟨_, _, _, rfl, by decide, zm_f5.1, zm_f5.2.1, zm_f5.2.2, Or.inl ⟨_, zw_757, Or.inl rfl⟩⟩, List.forall_mem_cons.mpr ⟨trivial, List.forall_mem_cons.mpr ⟨trivial, List.forall_mem_cons.mpr ⟨trivial, List.forall_mem_cons.mpr ⟨⟨⟨_, _, _, rfl, by decide, zm_f5.1, zm_f5.2.1, zm_f5.2.2, Or.inl ⟨_, zw_732, Or.inl rfl⟩⟩, zm_okw_n rfl rfl⟩, fun _ h => absurd h List.not_mem_nil⟩⟩⟩⟩⟩⟩
set_option maxRecDepth 100000 in
theorem zq_97_1 : ∀ e ∈ zm_c97_1, zm_okq 97 e.2 := List.forall_mem_cons.mpr ⟨trivial, List.forall_mem_cons.mpr ⟨⟨_, _, _, rfl, by decide, zm_f5.1, zm_f5.2.1, zm_f5.2.2, Or.inl ⟨_, zw_732, Or.inl rfl⟩⟩, List.forall_mem_cons.mpr ⟨trivial, List.forall_mem_cons.mpr ⟨trivial, List.forall_mem_cons.mpr ⟨trivial, List.forall_mem_cons.mpr ⟨trivial, fun _ h => absurd h List.not_mem_nil⟩⟩⟩⟩⟩⟩
set_option maxRecDepth 100000 in
theorem zq_97_2 : ∀ e ∈ zm_c97_2, zm_okq 97 e.2 := List.forall_mem_cons.mpr ⟨trivial, fun _ h => absurd h List.not_mem_nil⟩
set_option maxRecDepth 100000 in
theorem zq_98_0 : ∀ e ∈ zm_c98_0, zm_okq 98 e.2 := List.forall_mem_cons.mpr ⟨trivial, List.forall_mem_cons.mpr ⟨trivial, List.forall_mem_cons.mpr ⟨trivial, List.forall_mem_cons.mpr ⟨trivial, List.forall_mem_cons.mpr ⟨trivial, List.forall_mem_cons.mpr ⟨trivial, fun _ h => absurd h List.not_mem_nil⟩⟩⟩⟩⟩⟩
set_option maxRecDepth 100000 in
theorem zq_98_1 : ∀ e ∈ zm_c98_1, zm_okq 98 e.2 := List.forall_mem_cons.mpr ⟨trivial, List.forall_mem_cons.mpr ⟨trivial, List.forall_mem_cons.mpr ⟨trivial, List.forall_mem_cons.mpr ⟨trivial, List.forall_mem_cons.mpr ⟨trivial, List.forall_mem_cons.mpr ⟨trivial, fun _ h => absurd h List.not_mem_nil⟩⟩⟩⟩⟩⟩
set_option maxRecDepth 100000 in
theorem zq_98_2 : ∀ e ∈ zm_c98_2, zm_okq 98 e.2 := List.forall_mem_cons.mpr ⟨trivial, List.forall_mem_cons.mpr ⟨trivial, List.forall_mem_cons.mpr ⟨trivial, List.forall_mem_cons.mpr ⟨trivial, List.forall_mem_cons.mpr ⟨trivial, List.forall_mem_cons.mpr ⟨trivial, fun _ h => absurd h List.not_mem_nil⟩⟩⟩⟩⟩⟩
set_option maxRecDepth 100000 in
theorem zq_98_3 : ∀ e ∈ zm_c98_3, zm_okq 98 e.2 := List.forall_mem_cons.mpr ⟨trivial, List.forall_mem_cons.mpr ⟨trivial, List.forall_mem_cons.mpr ⟨trivial, List.forall_mem_cons.mpr ⟨trivial, List.forall_mem_cons.mpr ⟨trivial, List.forall_mem_cons.mpr ⟨trivial, fun _ h => absurd h List.not_mem_nil⟩⟩⟩⟩⟩⟩
set_option maxRecDepth 100000 in
theorem zq_98_4 : ∀ e ∈ zm_c98_4, zm_okq 98 e.2 := List.forall_mem_cons.mpr ⟨trivial, List.forall_mem_cons.mpr ⟨trivial, List.forall_mem_cons.mpr ⟨trivial, List.forall_mem_cons.mpr ⟨trivial, List.forall_mem_cons.mpr ⟨trivial, List.forall_mem_cons.mpr ⟨trivial, fun _ h => absurd h List.not_mem_nil⟩⟩⟩⟩⟩⟩
set_option maxRecDepth 100000 in
theorem zq_98_5 : ∀ e ∈ zm_c98_5, zm_okq 98 e.2 := List.forall_mem_cons.mpr ⟨trivial, List.forall_mem_cons.mpr ⟨trivial, List.forall_mem_cons.mpr ⟨trivial, List.forall_mem_cons.mpr ⟨trivial, List.forall_mem_cons.mpr ⟨trivial, List.forall_mem_cons.mpr ⟨trivial, fun _ h => absurd h List.not_mem_nil⟩⟩⟩⟩⟩⟩
set_option maxRecDepth 100000 in
theorem zq_98_6 : ∀ e ∈ zm_c98_6, zm_okq 98 e.2 := List.forall_mem_cons.mpr ⟨trivial, List.forall_mem_cons.mpr ⟨trivial, List.forall_mem_cons.mpr ⟨trivial, List.forall_mem_cons.mpr ⟨trivial, List.forall_mem_cons.mpr ⟨trivial, List.forall_mem_cons.mpr ⟨trivial, fun _ h => absurd h List.not_mem_nil⟩⟩⟩⟩⟩⟩
set_option maxRecDepth 100000 in
theorem zq_98_7 : ∀ e ∈ zm_c98_7, zm_okq 98 e.2 := List.forall_mem_cons.mpr ⟨trivial, List.forall_mem_cons.mpr ⟨trivial, List.forall_mem_cons.mpr ⟨trivial, List.forall_mem_cons.mpr ⟨trivial, List.forall_mem_cons.mpr ⟨trivial, List.forall_mem_cons.mpr ⟨trivial, fun _ h => absurd h List.not_mem_nil⟩⟩⟩⟩⟩⟩
set_option maxRecDepth 100000 in
theorem zq_99_0 : ∀ e ∈ zm_c99_0, zm_okq 99 e.2 := List.forall_mem_cons.mpr ⟨trivial, List.forall_mem_cons.mpr ⟨⟨_, _, _, rfl, by decide, zm_f5.1, zm_f5.2.1, zm_f5.2.2, Or.inl ⟨_, zw_727, Or.inl rfl⟩⟩, List.forall_mem_cons.mpr ⟨trivial, List.forall_mem_cons.mpr ⟨trivial, List.forall_mem_cons.mpr ⟨trivial, List.forall_mem_cons.mpr ⟨trivial, fun _ h => absurd h List.not_mem_nil⟩⟩⟩⟩⟩⟩
set_option maxRecDepth 100000 in
theorem zq_99_1 : ∀ e ∈ zm_c99_1, zm_okq 99 e.2 := List.forall_mem_cons.mpr ⟨trivial, List.forall_mem_cons.mpr ⟨⟨⟨_, _, _, rfl, by decide, zm_f5.1, zm_f5.2.1, zm_f5.2.2, Or.inl ⟨_, zw_732, Or.inl rfl⟩⟩, zm_okw_n rfl rfl⟩, List.forall_mem_cons.mpr ⟨trivial, List.forall_mem_cons.mpr ⟨trivial, List.forall_mem_cons.mpr ⟨⟨_, _, _, rfl, by decide, zm_f5.1, zm_f5.2.1, zm_f5.2.2, Or.inl ⟨_, zw_725, Or.inl rfl⟩⟩, List.forall_mem_cons.mpr ⟨trivial, fun _ h => absurd h List.not_mem_nil⟩⟩⟩⟩⟩⟩
set_option maxRecDepth 100000 in
theorem zq_99_2 : ∀ e ∈ zm_c99_2, zm_okq 99 e.2 := List.forall_mem_cons.mpr ⟨trivial, List.forall_mem_cons.mpr ⟨trivial, List.forall_mem_cons.mpr ⟨trivial, List.forall_mem_cons.mpr ⟨trivial, List.forall_mem_cons.mpr ⟨trivial, List.forall_mem_cons.mpr ⟨trivial, fun _ h => absurd h List.not_mem_nil⟩⟩⟩⟩⟩⟩
set_option maxRecDepth 100000 in
theorem zq_99_3 : ∀ e ∈ zm_c99_3, zm_okq 99 e.2 := List.forall_mem_cons.mpr ⟨trivial, List.forall_mem_cons.mpr ⟨trivial, List.forall_mem_cons.mpr ⟨trivial, List.forall_mem_cons.mpr ⟨trivial, List.forall_mem_cons.mpr ⟨trivial, List.forall_mem_cons.mpr ⟨trivial, fun _ h => absurd h List.not_mem_nil⟩⟩⟩⟩⟩⟩
set_option maxRecDepth 100000 in
theorem zq_99_4 : ∀ e ∈ zm_c99_4, zm_okq 99 e.2 := List.forall_mem_cons.mpr ⟨trivial, List.forall_mem_cons.mpr ⟨trivial, fun _ h => absurd h List.not_mem_nil⟩⟩
set_option maxRecDepth 100000 in
theorem zq_100_0 : ∀ e ∈ zm_c100_0, zm_okq 100 e.2 := List.forall_mem_cons.mpr ⟨trivial, List.forall_mem_cons.mpr ⟨trivial, List.forall_mem_cons.mpr ⟨⟨_, _, _, rfl, by decide, zm_f5.1, zm_f5.2.1, zm_f5.2.2, Or.inl ⟨_, zw_732, Or.inl rfl⟩⟩, List.forall_mem_cons.mpr ⟨trivial, List.forall_mem_cons.mpr ⟨trivial, List.forall_mem_cons.mpr ⟨trivial, fun _ h => absurd h List.not_mem_nil⟩⟩⟩⟩⟩⟩
set_option maxRecDepth 100000 in
theorem zq_100_1 : ∀ e ∈ zm_c100_1, zm_okq 100 e.2 := List.forall_mem_cons.mpr ⟨trivial, List.forall_mem_cons.mpr ⟨⟨⟨_, _, _, rfl, by decide, zm_f5.1, zm_f5.2.1, zm_f5.2.2, Or.inl ⟨_, zw_763, Or.inl rfl⟩⟩, zm_okw_n rfl rfl⟩, List.forall_mem_cons.mpr ⟨trivial, List.forall_mem_cons.mpr ⟨⟨_, _, _, rfl, by decide, zm_f5.1, zm_f5.2.1, zm_f5.2.2, Or.inl ⟨_, zw_763, Or.inl rfl⟩⟩, List.forall_mem_cons.mpr ⟨trivial, List.forall_mem_cons.mpr ⟨trivial, fun _ h => absurd h List.not_mem_nil⟩⟩⟩⟩⟩⟩
set_option maxRecDepth 100000 in
theorem zq_100_2 : ∀ e ∈ zm_c100_2, zm_okq 100 e.2 := List.forall_mem_cons.mpr ⟨trivial, List.forall_mem_cons.mpr ⟨trivial, List.forall_mem_cons.mpr ⟨trivial, List.forall_mem_cons.mpr ⟨⟨_, _, _, rfl, by decide, zm_f5.1, zm_f5.2.1, zm_f5.2.2, Or.inl ⟨_, zw_757, Or.inl rfl⟩⟩, List.forall_mem_cons.mpr ⟨⟨⟨_, _, _, rfl, by decide, zm_f5.1, zm_f5.2.1, zm_f5.2.2, Or.inl ⟨_, zw_760, Or.inl rfl⟩⟩, zm_okw_n rfl rfl⟩, List.forall_mem_cons.mpr ⟨trivial, fun _ h => absurd h List.not_mem_nil⟩⟩⟩⟩⟩⟩
set_option maxRecDepth 100000 in
theorem zq_100_3 : ∀ e ∈ zm_c100_3, zm_okq 100 e.2 := List.forall_mem_cons.mpr ⟨trivial, List.forall_mem_cons.mpr ⟨⟨_, _, _, rfl, by decide, zm_f5.1, zm_f5.2.1, zm_f5.2.2, Or.inl ⟨_, zw_758, Or.inl rfl⟩⟩, List.forall_mem_cons.mpr ⟨⟨⟨_, _, _, rfl, by decide, zm_f5.1, zm_f5.2.1, zm_f5.2.2, Or.inl ⟨_, zw_761, Or.inl rfl⟩⟩, zm_okw_n rfl rfl⟩, List.forall_mem_cons.mpr ⟨trivial, List.forall_mem_cons.mpr ⟨trivial, List.forall_mem_cons.mpr ⟨⟨_, _, _, rfl, by decide, zm_f5.1, zm_f5.2.1, zm_f5.2.2, Or.inl ⟨_, zw_759, Or.inl rfl⟩⟩, fun _ h => absurd h List.not_mem_nil⟩⟩⟩⟩⟩⟩
set_option maxRecDepth 100000 in
theorem zq_100_4 : ∀ e ∈ zm_c100_4, zm_okq 100 e.2 := List.forall_mem_cons.mpr ⟨⟨⟨_, _, _, rfl, by decide, zm_f5.1, zm_f5.2.1, zm_f5.2.2, Or.inl ⟨_, zw_762, Or.inl rfl⟩⟩, zm_okw_n rfl rfl⟩, List.forall_mem_cons.mpr ⟨trivial, List.forall_mem_cons.mpr ⟨⟨_, _, _, rfl, by decide, zm_f5.1, zm_f5.2.1, zm_f5.2.2, Or.inl ⟨_, zw_760, Or.inl rfl⟩⟩, List.forall_mem_cons.mpr ⟨trivial, fun _ h => absurd h List.not_mem_nil⟩⟩⟩⟩
set_option maxRecDepth 100000 in
theorem zq_101_0 : ∀ e ∈ zm_c101_0, zm_okq 101 e.2 := List.forall_mem_cons.mpr ⟨trivial, List.forall_mem_cons.mpr ⟨trivial, List.forall_mem_cons.mpr ⟨⟨_, _, _, rfl, by decide, zm_f5.1, zm_f5.2.1, zm_f5.2.2, Or.inl ⟨_, zw_763, Or.inl rfl⟩⟩, List.forall_mem_cons.mpr ⟨trivial, List.forall_mem_cons.mpr ⟨trivial, List.forall_mem_cons.mpr ⟨trivial, fun _ h => absurd h List.not_mem_nil⟩⟩⟩⟩⟩⟩
set_option maxRecDepth 100000 in
theorem zq_101_1 : ∀ e ∈ zm_c101_1, zm_okq 101 e.2 := List.forall_mem_cons.mpr ⟨trivial, List.forall_mem_cons.mpr ⟨⟨_, _, _, rfl, by decide, zm_f5.1, zm_f5.2.1, zm_f5.2.2, Or.inl ⟨_, zw_760, Or.inl rfl⟩⟩, List.forall_mem_cons.mpr ⟨trivial, List.forall_mem_cons.mpr ⟨trivial, List.forall_mem_cons.mpr ⟨trivial, List.forall_mem_cons.mpr ⟨trivial, fun _ h => absurd h List.not_mem_nil⟩⟩⟩⟩⟩⟩
set_option maxRecDepth 100000 in
theorem zq_101_2 : ∀ e ∈ zm_c101_2, zm_okq 101 e.2 := List.forall_mem_cons.mpr ⟨⟨⟨_, _, _, rfl, by decide, zm_f5.1, zm_f5.2.1, zm_f5.2.2, Or.inl ⟨_, zw_732, Or.inl rfl⟩⟩, zm_okw_n rfl rfl⟩, List.forall_mem_cons.mpr ⟨trivial, List.forall_mem_cons.mpr ⟨⟨_, _, _, rfl, by decide, zm_f5.1, zm_f5.2.1, zm_f5.2.2, Or.inl ⟨_, zw_732, Or.inl rfl⟩⟩, List.forall_mem_cons.mpr ⟨trivial, List.forall_mem_cons.mpr ⟨trivial, List.forall_mem_cons.mpr ⟨trivial, fun _ h => absurd h List.not_mem_nil⟩⟩⟩⟩⟩⟩
set_option maxRecDepth 100000 in
theorem zq_101_3 : ∀ e ∈ zm_c101_3, zm_okq 101 e.2 := List.forall_mem_cons.mpr ⟨trivial, List.forall_mem_cons.mpr ⟨⟨_, _, _, rfl, by decide, zm_f5.1, zm_f5.2.1, zm_f5.2.2, Or.inl ⟨_, zw_761, Or.inl rfl⟩⟩, List.forall_mem_cons.mpr ⟨trivial, fun _ h => absurd h List.not_mem_nil⟩⟩⟩
set_option maxRecDepth 100000 in
theorem zq_102_0 : ∀ e ∈ zm_c102_0, zm_okq 102 e.2 := List.forall_mem_cons.mpr ⟨trivial, List.forall_mem_cons.mpr ⟨trivial, List.forall_mem_cons.mpr ⟨trivial, List.forall_mem_cons.mpr ⟨trivial, List.forall_mem_cons.mpr ⟨trivial, List.forall_mem_cons.mpr ⟨⟨_, _, _, rfl, by decide, zm_f5.1, zm_f5.2.1, zm_f5.2.2, Or.inl ⟨_, zw_758, Or.inl rfl⟩⟩, fun _ h => absurd h List.not_mem_nil⟩⟩⟩⟩⟩⟩
set_option maxRecDepth 100000 in
theorem zq_102_1 : ∀ e ∈ zm_c102_1, zm_okq 102 e.2 := List.forall_mem_cons.mpr ⟨trivial, List.forall_mem_cons.mpr ⟨trivial, List.forall_mem_cons.mpr ⟨trivial, fun _ h => absurd h List.not_mem_nil⟩⟩⟩
set_option maxRecDepth 100000 in
theorem zq_103_0 : ∀ e ∈ zm_c103_0, zm_okq 103 e.2 := List.forall_mem_cons.mpr ⟨trivial, List.forall_mem_cons.mpr ⟨trivial, List.forall_mem_cons.mpr ⟨⟨_, _, _, rfl, by decide, zm_f5.1, zm_f5.2.1, zm_f5.2.2, Or.inl ⟨_, zw_763, Or.inl rfl⟩⟩, List.forall_mem_cons.mpr ⟨trivial, List.forall_mem_cons.mpr ⟨trivial, List.forall_mem_cons.mpr ⟨⟨_, _, _, rfl, by decide, zm_f5.1, zm_f5.2.1, zm_f5.2.2, Or.inl ⟨_, zw_760, Or.inl rfl⟩⟩, fun _ h => absurd h List.not_mem_nil⟩⟩⟩⟩⟩⟩
set_option maxRecDepth 100000 in
theorem zq_103_1 : ∀ e ∈ zm_c103_1, zm_okq 103 e.2 := List.forall_mem_cons.mpr ⟨trivial, List.forall_mem_cons.mpr ⟨trivial, List.forall_mem_cons.mpr ⟨trivial, List.forall_mem_cons.mpr ⟨trivial, List.forall_mem_cons.mpr ⟨trivial, List.forall_mem_cons.mpr ⟨⟨_, _, _, rfl, by decide, zm_f5.1, zm_f5.2.1, zm_f5.2.2, Or.inl ⟨_, zw_760, Or.inl rfl⟩⟩, fun _ h => absurd h List.not_mem_nil⟩⟩⟩⟩⟩⟩
set_option maxRecDepth 100000 in
theorem zq_103_2 : ∀ e ∈ zm_c103_2, zm_okq 103 e.2 := List.forall_mem_cons.mpr ⟨trivial, List.forall_mem_cons.mpr ⟨trivial, List.forall_mem_cons.mpr ⟨trivial, List.forall_mem_cons.mpr ⟨trivial, List.forall_mem_cons.mpr ⟨trivial, List.forall_mem_cons.mpr ⟨⟨⟨_, _, _, rfl, by decide, zm_f5.1, zm_f5.2.1, zm_f5.2.2, Or.inl ⟨_, zw_732, Or.inl rfl⟩⟩, zm_okw_n rfl rfl⟩, fun _ h => absurd h List.not_mem_nil⟩⟩⟩⟩⟩⟩
set_option maxRecDepth 100000 in
theorem zq_103_3 : ∀ e ∈ zm_c103_3, zm_okq 103 e.2 := List.forall_mem_cons.mpr ⟨trivial, List.forall_mem_cons.mpr ⟨⟨_, _, _, rfl, by decide, zm_f5.1, zm_f5.2.1, zm_f5.2.2, Or.inl ⟨_, zw_732, Or.inl rfl⟩⟩, List.forall_mem_cons.mpr ⟨trivial, List.forall_mem_cons.mpr ⟨trivial, List.forall_mem_cons.mpr ⟨trivial, List.forall_mem_cons.mpr ⟨trivial, fun _ h => absurd h List.not_mem_nil⟩⟩⟩⟩⟩⟩
set_option maxRecDepth 100000 in
theorem zq_103_4 : ∀ e ∈ zm_c103_4, zm_okq 103 e.2 := List.forall_mem_cons.mpr ⟨⟨_, _, _, rfl, by decide, zm_f5.1, zm_f5.2.1, zm_f5.2.2, Or.inl ⟨_, zw_761, Or.inl rfl⟩⟩, List.forall_mem_cons.mpr ⟨trivial, List.forall_mem_cons.mpr ⟨trivial, List.forall_mem_cons.mpr ⟨⟨_, _, _, rfl, by decide, zm_f5.1, zm_f5.2.1, zm_f5.2.2, Or.inl ⟨_, zw_762, Or.inl rfl⟩⟩, List.forall_mem_cons.mpr ⟨trivial, List.forall_mem_cons.mpr ⟨trivial, fun _ h => absurd h List.not_mem_nil⟩⟩⟩⟩⟩⟩
set_option maxRecDepth 100000 in
theorem zq_103_5 : ∀ e ∈ zm_c103_5, zm_okq 103 e.2 := List.forall_mem_cons.mpr ⟨⟨_, _, _, rfl, by decide, zm_f5.1, zm_f5.2.1, zm_f5.2.2, Or.inl ⟨_, zw_735, Or.inl rfl⟩⟩, List.forall_mem_cons.mpr ⟨trivial, List.forall_mem_cons.mpr ⟨trivial, List.forall_mem_cons.mpr ⟨trivial, List.forall_mem_cons.mpr ⟨trivial, List.forall_mem_cons.mpr ⟨trivial, fun _ h => absurd h List.not_mem_nil⟩⟩⟩⟩⟩⟩
set_option maxRecDepth 100000 in
theorem zq_103_6 : ∀ e ∈ zm_c103_6, zm_okq 103 e.2 := List.forall_mem_cons.mpr ⟨trivial, List.forall_mem_cons.mpr ⟨⟨_, _, _, rfl, by decide, zm_f5.1, zm_f5.2.1, zm_f5.2.2, Or.inl ⟨_, zw_756, Or.inl rfl⟩⟩, List.forall_mem_cons.mpr ⟨trivial, List.forall_mem_cons.mpr ⟨trivial, List.forall_mem_cons.mpr ⟨⟨⟨_, _, _, rfl, by decide, zm_f5.1, zm_f5.2.1, zm_f5.2.2, Or.inl ⟨_, zw_756, Or.inl rfl⟩⟩, zm_okw_n rfl rfl⟩, List.forall_mem_cons.mpr ⟨trivial, fun _ h => absurd h List.not_mem_nil⟩⟩⟩⟩⟩⟩
set_option maxRecDepth 100000 in
theorem zq_103_7 : ∀ e ∈ zm_c103_7, zm_okq 103 e.2 := List.forall_mem_cons.mpr ⟨trivial, List.forall_mem_cons.mpr ⟨trivial, List.forall_mem_cons.mpr ⟨⟨_, _, _, rfl, by decide, zm_f5.1, zm_f5.2.1, zm_f5.2.2, Or.inl ⟨_, zw_755, Or.inl rfl⟩⟩, List.forall_mem_cons.mpr ⟨trivial, List.forall_mem_cons.mpr ⟨trivial, List.forall_mem_cons.mpr ⟨⟨⟨_, _, _, rfl, by decide, zm_f5.1, zm_f5.2.1, zm_f5.2.2, Or.inl ⟨_, zw_755, Or.inl rfl⟩⟩, zm_okw_n rfl rfl⟩, fun _ h => absurd h List.not_mem_nil⟩⟩⟩⟩⟩⟩
set_option maxRecDepth 100000 in
theorem zq_103_8 : ∀ e ∈ zm_c103_8, zm_okq 103 e.2 := List.forall_mem_cons.mpr ⟨trivial, List.forall_mem_cons.mpr ⟨⟨_, _, _, rfl, by decide, zm_f5.1, zm_f5.2.1, zm_f5.2.2, Or.inl ⟨_, zw_735, Or.inl rfl⟩⟩, List.forall_mem_cons.mpr ⟨trivial, List.forall_mem_cons.mpr ⟨trivial, List.forall_mem_cons.mpr ⟨trivial, List.forall_mem_cons.mpr ⟨trivial, fun _ h => absurd h List.not_mem_nil⟩⟩⟩⟩⟩⟩
set_option maxRecDepth 100000 in
theorem zq_103_9 : ∀ e ∈ zm_c103_9, zm_okq 103 e.2 := List.forall_mem_cons.mpr ⟨trivial, List.forall_mem_cons.mpr ⟨⟨_, _, _, rfl, by decide, zm_f5.1, zm_f5.2.1, zm_f5.2.2, Or.inl ⟨_, zw_733, Or.inl rfl⟩⟩, List.forall_mem_cons.mpr ⟨trivial, List.forall_mem_cons.mpr ⟨trivial, List.forall_mem_cons.mpr ⟨trivial, List.forall_mem_cons.mpr ⟨⟨_, _, _, rfl, by decide, zm_f5.1, zm_f5.2.1, zm_f5.2.2, Or.inl ⟨_, zw_734, Or.inl rfl⟩⟩, fun _ h => absurd h List.not_mem_nil⟩⟩⟩⟩⟩⟩
set_option maxRecDepth 100000 in
theorem zq_103_10 : ∀ e ∈ zm_c103_10, zm_okq 103 e.2 := List.forall_mem_cons.mpr ⟨trivial, List.forall_mem_cons.mpr ⟨trivial, List.forall_mem_cons.mpr ⟨trivial, List.forall_mem_cons.mpr ⟨trivial, List.forall_mem_cons.mpr ⟨⟨_, _, _, rfl, by decide, zm_f5.1, zm_f5.2.1, zm_f5.2.2, Or.inl ⟨_, zw_735, Or.inl rfl⟩⟩, List.forall_mem_cons.mpr ⟨trivial, fun _ h => absurd h List.not_mem_nil⟩⟩⟩⟩⟩⟩
set_option maxRecDepth 100000 in
theorem zq_103_11 : ∀ e ∈ zm_c103_11, zm_okq 103 e.2 := List.forall_mem_cons.mpr ⟨trivial, List.forall_mem_cons.mpr ⟨trivial, List.forall_mem_cons.mpr ⟨trivial, List.forall_mem_cons.mpr ⟨⟨_, _, _, rfl, by decide, zm_f5.1, zm_f5.2.1, zm_f5.2.2, Or.inl ⟨_, zw_736, Or.inl rfl⟩⟩, List.forall_mem_cons.mpr ⟨trivial, List.forall_mem_cons.mpr ⟨trivial, fun _ h => absurd h List.not_mem_nil⟩⟩⟩⟩⟩⟩
set_option maxRecDepth 100000 in
theorem zq_103_12 : ∀ e ∈ zm_c103_12, zm_okq 103 e.2 := List.forall_mem_cons.mpr ⟨⟨_, _, _, rfl, by decide, zm_f5.1, zm_f5.2.1, zm_f5.2.2, Or.inl ⟨_, zw_757, Or.inl rfl⟩⟩, List.forall_mem_cons.mpr ⟨trivial, List.forall_mem_cons.mpr ⟨trivial, List.forall_mem_cons.mpr ⟨⟨_, _, _, rfl, by decide, zm_f5.1, zm_f5.2.1, zm_f5.2.2, Or.inl ⟨_, zw_737, Or.inl rfl⟩⟩, List.forall_mem_cons.mpr ⟨trivial, List.forall_mem_cons.mpr ⟨trivial, fun _ h => absurd h List.not_mem_nil⟩⟩⟩⟩⟩⟩
set_option maxRecDepth 100000 in
theorem zq_103_13 : ∀ e ∈ zm_c103_13, zm_okq 103 e.2 := List.forall_mem_cons.mpr ⟨⟨_, _, _, rfl, by decide, zm_f5.1, zm_f5.2.1, zm_f5.2.2, Or.inl ⟨_, zw_758, Or.inl rfl⟩⟩, List.forall_mem_cons.mpr ⟨trivial, List.forall_mem_cons.mpr ⟨trivial, List.forall_mem_cons.mpr ⟨⟨_, _, _, rfl, by decide, zm_f5.1, zm_f5.2.1, zm_f5.2.2, Or.inl ⟨_, zw_738, Or.inl rfl⟩⟩, List.forall_mem_cons.mpr ⟨trivial, List.forall_mem_cons.mpr ⟨trivial, fun _ h => absurd h List.not_mem_nil⟩⟩⟩⟩⟩⟩
set_option maxRecDepth 100000 in
theorem zq_103_14 : ∀ e ∈ zm_c103_14, zm_okq 103 e.2 := List.forall_mem_cons.mpr ⟨⟨_, _, _, rfl, by decide, zm_f5.1, zm_f5.2.1, zm_f5.2.2, Or.inl ⟨_, zw_759, Or.inl rfl⟩⟩, List.forall_mem_cons.mpr ⟨trivial, List.forall_mem_cons.mpr ⟨trivial, List.forall_mem_cons.mpr ⟨trivial, List.forall_mem_cons.mpr ⟨⟨_, _, _, rfl, by decide, zm_f5.1, zm_f5.2.1, zm_f5.2.2, Or.inl ⟨_, zw_736, Or.inl rfl⟩⟩, List.forall_mem_cons.mpr ⟨trivial, fun _ h => absurd h List.not_mem_nil⟩⟩⟩⟩⟩⟩
set_option maxRecDepth 100000 in
theorem zq_103_15 : ∀ e ∈ zm_c103_15, zm_okq 103 e.2 := List.forall_mem_cons.mpr ⟨trivial, List.forall_mem_cons.mpr ⟨⟨⟨_, _, _, rfl, by decide, zm_f5.1, zm_f5.2.1, zm_f5.2.2, Or.inl ⟨_, zw_757, Or.inl rfl⟩⟩, zm_okw_n rfl rfl⟩, List.forall_mem_cons.mpr ⟨trivial, List.forall_mem_cons.mpr ⟨trivial, List.forall_mem_cons.mpr ⟨⟨_, _, _, rfl, by decide, zm_f5.1, zm_f5.2.1, zm_f5.2.2, Or.inl ⟨_, zw_737, Or.inl rfl⟩⟩, List.forall_mem_cons.mpr ⟨trivial, fun _ h => absurd h List.not_mem_nil⟩⟩⟩⟩⟩⟩
set_option maxRecDepth 100000 in
theorem zq_103_16 : ∀ e ∈ zm_c103_16, zm_okq 103 e.2 := List.forall_mem_cons.mpr ⟨trivial, List.forall_mem_cons.mpr ⟨⟨⟨_, _, _, rfl, by decide, zm_f5.1, zm_f5.2.1, zm_f5.2.2, Or.inl ⟨_, zw_758, Or.inl rfl⟩⟩, zm_okw_n rfl rfl⟩, List.forall_mem_cons.mpr ⟨trivial, List.forall_mem_cons.mpr ⟨trivial, List.forall_mem_cons.mpr ⟨⟨_, _, _, rfl, by decide, zm_f5.1, zm_f5.2.1, zm_f5.2.2, Or.inl ⟨_, zw_738, Or.inl rfl⟩⟩, List.forall_mem_cons.mpr ⟨trivial, fun _ h => absurd h List.not_mem_nil⟩⟩⟩⟩⟩⟩
set_option maxRecDepth 100000 in
theorem zq_103_17 : ∀ e ∈ zm_c103_17, zm_okq 103 e.2 := List.forall_mem_cons.mpr ⟨trivial, List.forall_mem_cons.mpr ⟨⟨⟨_, _, _, rfl, by decide, zm_f5.1, zm_f5.2.1, zm_f5.2.2, Or.inl ⟨_, zw_759, Or.inl rfl⟩⟩, zm_okw_n rfl rfl⟩, List.forall_mem_cons.mpr ⟨trivial, List.forall_mem_cons.mpr ⟨⟨_, _, _, rfl, by decide, zm_f5.1, zm_f5.2.1, zm_f5.2.2, Or.inl ⟨_, zw_732, Or.inl rfl⟩⟩, List.forall_mem_cons.mpr ⟨trivial, List.forall_mem_cons.mpr ⟨trivial, fun _ h => absurd h List.not_mem_nil⟩⟩⟩⟩⟩⟩
set_option maxRecDepth 100000 in
theorem zq_103_18 : ∀ e ∈ zm_c103_18, zm_okq 103 e.2 := List.forall_mem_cons.mpr ⟨trivial, List.forall_mem_cons.mpr ⟨trivial, List.forall_mem_cons.mpr ⟨⟨_, _, _, rfl, by decide, zm_f5.1, zm_f5.2.1, zm_f5.2.2, Or.inl ⟨_, zw_757, Or.inl rfl⟩⟩, List.forall_mem_cons.mpr ⟨trivial, List.forall_mem_cons.mpr ⟨trivial, List.forall_mem_cons.mpr ⟨trivial, fun _ h => absurd h List.not_mem_nil⟩⟩⟩⟩⟩⟩
set_option maxRecDepth 100000 in
theorem zq_103_19 : ∀ e ∈ zm_c103_19, zm_okq 103 e.2 := List.forall_mem_cons.mpr ⟨⟨⟨_, _, _, rfl, by decide, zm_f5.1, zm_f5.2.1, zm_f5.2.2, Or.inl ⟨_, zw_732, Or.inl rfl⟩⟩, zm_okw_n rfl rfl⟩, List.forall_mem_cons.mpr ⟨trivial, List.forall_mem_cons.mpr ⟨⟨_, _, _, rfl, by decide, zm_f5.1, zm_f5.2.1, zm_f5.2.2, Or.inl ⟨_, zw_732, Or.inl rfl⟩⟩, List.forall_mem_cons.mpr ⟨trivial, List.forall_mem_cons.mpr ⟨trivial, List.forall_mem_cons.mpr ⟨trivial, fun _ h => absurd h List.not_mem_nil⟩⟩⟩⟩⟩⟩
set_option maxRecDepth 100000 in
theorem zq_103_20 : ∀ e ∈ zm_c103_20, zm_okq 103 e.2 := List.forall_mem_cons.mpr ⟨trivial, List.forall_mem_cons.mpr ⟨trivial, List.forall_mem_cons.mpr ⟨⟨_, _, _, rfl, by decide, zm_f5.1, zm_f5.2.1, zm_f5.2.2, Or.inl ⟨_, zw_732, Or.inl rfl⟩⟩, List.forall_mem_cons.mpr ⟨trivial, List.forall_mem_cons.mpr ⟨trivial, List.forall_mem_cons.mpr ⟨⟨⟨_, _, _, rfl, by decide, zm_f5.1, zm_f5.2.1, zm_f5.2.2, Or.inl ⟨_, zw_732, Or.inl rfl⟩⟩, zm_okw_n rfl rfl⟩, fun _ h => absurd h List.not_mem_nil⟩⟩⟩⟩⟩⟩
set_option maxRecDepth 100000 in
theorem zq_103_21 : ∀ e ∈ zm_c103_21, zm_okq 103 e.2 := List.forall_mem_cons.mpr ⟨trivial, List.forall_mem_cons.mpr ⟨trivial, List.forall_mem_cons.mpr ⟨⟨⟨_, _, _, rfl, by decide, zm_f5.1, zm_f5.2.1, zm_f5.2.2, Or.inl ⟨_, zw_763, Or.inl rfl⟩⟩, zm_okw_n rfl rfl⟩, List.forall_mem_cons.mpr ⟨trivial, List.forall_mem_cons.mpr ⟨trivial, fun _ h => absurd h List.not_mem_nil⟩⟩⟩⟩⟩
set_option maxRecDepth 100000 in
theorem zq_104_0 : ∀ e ∈ zm_c104_0, zm_okq 104 e.2 := List.forall_mem_cons.mpr ⟨trivial, List.forall_mem_cons.mpr ⟨trivial, List.forall_mem_cons.mpr ⟨trivial, List.forall_mem_cons.mpr ⟨trivial, List.forall_mem_cons.mpr ⟨trivial, List.forall_mem_cons.mpr ⟨trivial, fun _ h => absurd h List.not_mem_nil⟩⟩⟩⟩⟩⟩
set_option maxRecDepth 100000 in
theorem zq_104_1 : ∀ e ∈ zm_c104_1, zm_okq 104 e.2 := List.forall_mem_cons.mpr ⟨trivial, List.forall_mem_cons.mpr ⟨trivial, List.forall_mem_cons.mpr ⟨trivial, fun _ h => absurd h List.not_mem_nil⟩⟩⟩
set_option maxRecDepth 100000 in
theorem zq_105_0 : ∀ e ∈ zm_c105_0, zm_okq 105 e.2 := List.forall_mem_cons.mpr ⟨trivial, List.forall_mem_cons.mpr ⟨trivial, List.forall_mem_cons.mpr ⟨trivial, List.forall_mem_cons.mpr ⟨trivial, List.forall_mem_cons.mpr ⟨trivial, List.forall_mem_cons.mpr ⟨trivial, fun _ h => absurd h List.not_mem_nil⟩⟩⟩⟩⟩⟩
set_option maxRecDepth 100000 in
theorem zq_105_1 : ∀ e ∈ zm_c105_1, zm_okq 105 e.2 := List.forall_mem_cons.mpr ⟨trivial, List.forall_mem_cons.mpr ⟨trivial, List.forall_mem_cons.mpr ⟨trivial, List.forall_mem_cons.mpr ⟨⟨_, _, _, rfl, by decide, zm_f5.1, zm_f5.2.1, zm_f5.2.2, Or.inl ⟨_, zw_727, Or.inl rfl⟩⟩, List.forall_mem_cons.mpr ⟨trivial, List.forall_mem_cons.mpr ⟨trivial, fun _ h => absurd h List.not_mem_nil⟩⟩⟩⟩⟩⟩
set_option maxRecDepth 100000 in
theorem zq_105_2 : ∀ e ∈ zm_c105_2, zm_okq 105 e.2 := List.forall_mem_cons.mpr ⟨trivial, List.forall_mem_cons.mpr ⟨trivial, List.forall_mem_cons.mpr ⟨trivial, List.forall_mem_cons.mpr ⟨⟨⟨_, _, _, rfl, by decide, zm_f5.1, zm_f5.2.1, zm_f5.2.2, Or.inl ⟨_, zw_732, Or.inl rfl⟩⟩, zm_okw_n rfl rfl⟩, List.forall_mem_cons.mpr ⟨trivial, List.forall_mem_cons.mpr ⟨⟨_, _, _, rfl, by decide, zm_f5.1, zm_f5.2.1, zm_f5.2.2, Or.inl ⟨_, zw_727, Or.inl rfl⟩⟩, fun _ h => absurd h List.not_mem_nil⟩⟩⟩⟩⟩⟩
set_option maxRecDepth 100000 in
theorem zq_105_3 : ∀ e ∈ zm_c105_3, zm_okq 105 e.2 := List.forall_mem_cons.mpr ⟨trivial, List.forall_mem_cons.mpr ⟨trivial, List.forall_mem_cons.mpr ⟨trivial, List.forall_mem_cons.mpr ⟨trivial, fun _ h => absurd h List.not_mem_nil⟩⟩⟩⟩
set_option maxRecDepth 100000 in
theorem zq_106_0 : ∀ e ∈ zm_c106_0, zm_okq 106 e.2 := List.forall_mem_cons.mpr ⟨trivial, List.forall_mem_cons.mpr ⟨trivial, List.forall_mem_cons.mpr ⟨⟨⟨_, _, _, rfl, by decide, zm_f5.1, zm_f5.2.1, zm_f5.2.2, Or.inl ⟨_, zw_732, Or.inl rfl⟩⟩, zm_okw_n rfl rfl⟩, List.forall_mem_cons.mpr ⟨trivial, List.forall_mem_cons.mpr ⟨trivial, List.forall_mem_cons.mpr ⟨trivial, fun _ h => absurd h List.not_mem_nil⟩⟩⟩⟩⟩⟩
set_option maxRecDepth 100000 in
theorem zq_106_1 : ∀ e ∈ zm_c106_1, zm_okq 106 e.2 := List.forall_mem_cons.mpr ⟨trivial, List.forall_mem_cons.mpr ⟨trivial, List.forall_mem_cons.mpr ⟨trivial, List.forall_mem_cons.mpr ⟨trivial, List.forall_mem_cons.mpr ⟨trivial, List.forall_mem_cons.mpr ⟨⟨_, _, _, rfl, by decide, zm_f5.1, zm_f5.2.1, zm_f5.2.2, Or.inl ⟨_, zw_727, Or.inl rfl⟩⟩, fun _ h => absurd h List.not_mem_nil⟩⟩⟩⟩⟩⟩
set_option maxRecDepth 100000 in
theorem zq_106_2 : ∀ e ∈ zm_c106_2, zm_okq 106 e.2 := List.forall_mem_cons.mpr ⟨trivial, List.forall_mem_cons.mpr ⟨trivial, List.forall_mem_cons.mpr ⟨trivial, List.forall_mem_cons.mpr ⟨trivial, List.forall_mem_cons.mpr ⟨trivial, List.forall_mem_cons.mpr ⟨trivial, fun _ h => absurd h List.not_mem_nil⟩⟩⟩⟩⟩⟩
set_option maxRecDepth 100000 in
theorem zq_106_3 : ∀ e ∈ zm_c106_3, zm_okq 106 e.2 := List.forall_mem_cons.mpr ⟨trivial, List.forall_mem_cons.mpr ⟨trivial, List.forall_mem_cons.mpr ⟨trivial, List.forall_mem_cons.mpr ⟨⟨_, _, _, rfl, by decide, zm_f5.1, zm_f5.2.1, zm_f5.2.2, Or.inl ⟨_, zw_729, Or.inl rfl⟩⟩, List.forall_mem_cons.mpr ⟨trivial, List.forall_mem_cons.mpr ⟨trivial, fun _ h => absurd h List.not_mem_nil⟩⟩⟩⟩⟩⟩
set_option maxRecDepth 100000 in
theorem zq_106_4 : ∀ e ∈ zm_c106_4, zm_okq 106 e.2 := List.forall_mem_cons.mpr ⟨⟨_, _, _, rfl, by decide, zm_f5.1, zm_f5.2.1, zm_f5.2.2, Or.inl ⟨_, zw_728, Or.inl rfl⟩⟩, List.forall_mem_cons.mpr ⟨trivial, List.forall_mem_cons.mpr ⟨trivial, List.forall_mem_cons.mpr ⟨trivial, List.forall_mem_cons.mpr ⟨trivial, List.forall_mem_cons.mpr ⟨⟨_, _, _, rfl, by decide, zm_f5.1, zm_f5.2.1, zm_f5.2.2, Or.inl ⟨_, zw_753, Or.inl rfl⟩⟩, fun _ h => absurd h List.not_mem_nil⟩⟩⟩⟩⟩⟩
set_option maxRecDepth 100000 in
theorem zq_106_5 : ∀ e ∈ zm_c106_5, zm_okq 106 e.2 := List.forall_mem_cons.mpr ⟨trivial, List.forall_mem_cons.mpr ⟨trivial, List.forall_mem_cons.mpr ⟨⟨_, _, _, rfl, by decide, zm_f5.1, zm_f5.2.1, zm_f5.2.2, Or.inl ⟨_, zw_754, Or.inl rfl⟩⟩, List.forall_mem_cons.mpr ⟨trivial, List.forall_mem_cons.mpr ⟨trivial, List.forall_mem_cons.mpr ⟨⟨_, _, _, rfl, by decide, zm_f5.1, zm_f5.2.1, zm_f5.2.2, Or.inl ⟨_, zw_755, Or.inl rfl⟩⟩, fun _ h => absurd h List.not_mem_nil⟩⟩⟩⟩⟩⟩
set_option maxRecDepth 100000 in
theorem zq_106_6 : ∀ e ∈ zm_c106_6, zm_okq 106 e.2 := List.forall_mem_cons.mpr ⟨trivial, List.forall_mem_cons.mpr ⟨trivial, List.forall_mem_cons.mpr ⟨⟨_, _, _, rfl, by decide, zm_f5.1, zm_f5.2.1, zm_f5.2.2, Or.inl ⟨_, zw_756, Or.inl rfl⟩⟩, List.forall_mem_cons.mpr ⟨trivial, List.forall_mem_cons.mpr ⟨trivial, List.forall_mem_cons.mpr ⟨⟨_, _, _, rfl, by decide, zm_f5.1, zm_f5.2.1, zm_f5.2.2, Or.inl ⟨_, zw_752, Or.inl rfl⟩⟩, fun _ h => absurd h List.not_mem_nil⟩⟩⟩⟩⟩⟩
set_option maxRecDepth 100000 in
theorem zq_106_7 : ∀ e ∈ zm_c106_7, zm_okq 106 e.2 := List.forall_mem_cons.mpr ⟨trivial, List.forall_mem_cons.mpr ⟨trivial, List.forall_mem_cons.mpr ⟨trivial, fun _ h => absurd h List.not_mem_nil⟩⟩⟩
set_option maxRecDepth 100000 in
theorem zq_107_0 : ∀ e ∈ zm_c107_0, zm_okq 107 e.2 := List.forall_mem_cons.mpr ⟨trivial, List.forall_mem_cons.mpr ⟨⟨_, _, _, rfl, by decide, zm_f4.1, zm_f4.2.1, zm_f4.2.2, Or.inl ⟨_, zw_117, Or.inl rfl⟩⟩, List.forall_mem_cons.mpr ⟨trivial, fun _ h => absurd h List.not_mem_nil⟩⟩⟩
set_option maxRecDepth 100000 in
theorem zq_108_0 : ∀ e ∈ zm_c108_0, zm_okq 108 e.2 := List.forall_mem_cons.mpr ⟨trivial, List.forall_mem_cons.mpr ⟨trivial, List.forall_mem_cons.mpr ⟨⟨_, _, _, rfl, by decide, zm_f4.1, zm_f4.2.1, zm_f4.2.2, Or.inl ⟨_, zw_117, Or.inl rfl⟩⟩, List.forall_mem_cons.mpr ⟨trivial, List.forall_mem_cons.mpr ⟨trivial, List.forall_mem_cons.mpr ⟨trivial, fun _ h => absurd h List.not_mem_nil⟩⟩⟩⟩⟩⟩
set_option maxRecDepth 100000 in
theorem zq_108_1 : ∀ e ∈ zm_c108_1, zm_okq 108 e.2 := List.forall_mem_cons.mpr ⟨trivial, List.forall_mem_cons.mpr ⟨trivial, List.forall_mem_cons.mpr ⟨trivial, fun _ h => absurd h List.not_mem_nil⟩⟩⟩
set_option maxRecDepth 100000 in
theorem zq_109_0 : ∀ e ∈ zm_c109_0, zm_okq 109 e.2 := List.forall_mem_cons.mpr ⟨trivial, List.forall_mem_cons.mpr ⟨⟨_, _, _, rfl, by decide, zm_f4.1, zm_f4.2.1, zm_f4.2.2, Or.inl ⟨_, zw_116, Or.inl rfl⟩⟩, List.forall_mem_cons.mpr ⟨trivial, List.forall_mem_cons.mpr ⟨trivial, List.forall_mem_cons.mpr ⟨trivial, fun _ h => absurd h List.not_mem_nil⟩⟩⟩⟩⟩
set_option maxRecDepth 100000 in
theorem zq_110_0 : ∀ e ∈ zm_c110_0, zm_okq 110 e.2 := List.forall_mem_cons.mpr ⟨trivial, List.forall_mem_cons.mpr ⟨trivial, List.forall_mem_cons.mpr ⟨⟨_, _, _, rfl, by decide, zm_f4.1, zm_f4.2.1, zm_f4.2.2, Or.inl ⟨_, zw_119, Or.inr zw_120⟩⟩, List.forall_mem_cons.mpr ⟨trivial, List.forall_mem_cons.mpr ⟨trivial, List.forall_mem_cons.mpr ⟨⟨⟨_, _, _, rfl, by decide, zm_f4.1, zm_f4.2.1, zm_f4.2.2, Or.inl ⟨_, zw_119, Or.inr zw_120⟩⟩, zm_okw_n rfl rfl⟩, fun _ h => absurd h List.not_mem_nil⟩⟩⟩⟩⟩⟩
set_option maxRecDepth 100000 in
theorem zq_110_1 : ∀ e ∈ zm_c110_1, zm_okq 110 e.2 := List.forall_mem_cons.mpr ⟨trivial, List.forall_mem_cons.mpr ⟨trivial, List.forall_mem_cons.mpr ⟨trivial, List.forall_mem_cons.mpr ⟨⟨_, _, _, rfl, by decide, zm_f4.1, zm_f4.2.1, zm_f4.2.2, Or.inl ⟨_, zw_116, Or.inl rfl⟩⟩, List.forall_mem_cons.mpr ⟨trivial, List.forall_mem_cons.mpr ⟨⟨_, _, _, rfl, by decide, zm_f4.1, zm_f4.2.1, zm_f4.2.2, Or.inl ⟨_, zw_117, Or.inl rfl⟩⟩, fun _ h => absurd h List.not_mem_nil⟩⟩⟩⟩⟩⟩
set_option maxRecDepth 100000 in
theorem zq_110_2 : ∀ e ∈ zm_c110_2, zm_okq 110 e.2 := List.forall_mem_cons.mpr ⟨trivial, List.forall_mem_cons.mpr ⟨trivial, List.forall_mem_cons.mpr ⟨trivial, fun _ h => absurd h List.not_mem_nil⟩⟩⟩
set_option maxRecDepth 100000 in
theorem zq_111_0 : ∀ e ∈ zm_c111_0, zm_okq 111 e.2 := List.forall_mem_cons.mpr ⟨trivial, List.forall_mem_cons.mpr ⟨trivial, List.forall_mem_cons.mpr ⟨trivial, List.forall_mem_cons.mpr ⟨trivial, List.forall_mem_cons.mpr ⟨trivial, List.forall_mem_cons.mpr ⟨trivial, fun _ h => absurd h List.not_mem_nil⟩⟩⟩⟩⟩⟩
set_option maxRecDepth 100000 in
theorem zq_111_1 : ∀ e ∈ zm_c111_1, zm_okq 111 e.2 := List.forall_mem_cons.mpr ⟨trivial, List.forall_mem_cons.mpr ⟨trivial, List.forall_mem_cons.mpr ⟨trivial, List.forall_mem_cons.mpr ⟨trivial, List.forall_mem_cons.mpr ⟨trivial, List.forall_mem_cons.mpr ⟨trivial, fun _ h => absurd h List.not_mem_nil⟩⟩⟩⟩⟩⟩
set_option maxRecDepth 100000 in
theorem zq_111_2 : ∀ e ∈ zm_c111_2, zm_okq 111 e.2 := List.forall_mem_cons.mpr ⟨trivial, List.forall_mem_cons.mpr ⟨trivial, List.forall_mem_cons.mpr ⟨trivial, List.forall_mem_cons.mpr ⟨⟨⟨_, _, _, rfl, by decide, zm_f4.1, zm_f4.2.1, zm_f4.2.2, Or.inl ⟨_, zw_117, Or.inl rfl⟩⟩, zm_okw_n rfl rfl⟩, List.forall_mem_cons.mpr ⟨trivial, fun _ h => absurd h List.not_mem_nil⟩⟩⟩⟩⟩
set_option maxRecDepth 100000 in
theorem zq_112_0 : ∀ e ∈ zm_c112_0, zm_okq 112 e.2 := List.forall_mem_cons.mpr ⟨trivial, List.forall_mem_cons.mpr ⟨trivial, List.forall_mem_cons.mpr ⟨⟨_, _, _, rfl, by decide, zm_f4.1, zm_f4.2.1, zm_f4.2.2, Or.inl ⟨_, zw_117, Or.inl rfl⟩⟩, List.forall_mem_cons.mpr ⟨trivial, List.forall_mem_cons.mpr ⟨trivial, List.forall_mem_cons.mpr ⟨trivial, fun _ h => absurd h List.not_mem_nil⟩⟩⟩⟩⟩⟩
set_option maxRecDepth 100000 in
theorem zq_112_1 : ∀ e ∈ zm_c112_1, zm_okq 112 e.2 := List.forall_mem_cons.mpr ⟨trivial, fun _ h => absurd h List.not_mem_nil⟩
set_option maxRecDepth 100000 in
theorem zq_113_0 : ∀ e ∈ zm_c113_0, zm_okq 113 e.2 := List.forall_mem_cons.mpr ⟨trivial, List.forall_mem_cons.mpr ⟨⟨_, _, _, rfl, by decide, zm_f4.1, zm_f4.2.1, zm_f4.2.2, Or.inl ⟨_, zw_116, Or.inl rfl⟩⟩, List.forall_mem_cons.mpr ⟨trivial, List.forall_mem_cons.mpr ⟨trivial, List.forall_mem_cons.mpr ⟨trivial, List.forall_mem_cons.mpr ⟨trivial, fun _ h => absurd h List.not_mem_nil⟩⟩⟩⟩⟩⟩
set_option maxRecDepth 100000 in
theorem zq_113_1 : ∀ e ∈ zm_c113_1, zm_okq 113 e.2 := List.forall_mem_cons.mpr ⟨trivial, List.forall_mem_cons.mpr ⟨⟨_, _, _, rfl, by decide, zm_f4.1, zm_f4.2.1, zm_f4.2.2, Or.inl ⟨_, zw_116, Or.inl rfl⟩⟩, List.forall_mem_cons.mpr ⟨⟨_, List.mem_cons_self, rfl, zw_114⟩, List.forall_mem_cons.mpr ⟨trivial, List.forall_mem_cons.mpr ⟨trivial, List.forall_mem_cons.mpr ⟨trivial, fun _ h => absurd h List.not_mem_nil⟩⟩⟩⟩⟩⟩
set_option maxRecDepth 100000 in
theorem zq_113_2 : ∀ e ∈ zm_c113_2, zm_okq 113 e.2 := List.forall_mem_cons.mpr ⟨trivial, List.forall_mem_cons.mpr ⟨trivial, List.forall_mem_cons.mpr ⟨trivial, List.forall_mem_cons.mpr ⟨trivial, List.forall_mem_cons.mpr ⟨trivial, List.forall_mem_cons.mpr ⟨trivial, fun _ h => absurd h List.not_mem_nil⟩⟩⟩⟩⟩⟩
set_option maxRecDepth 100000 in
theorem zq_113_3 : ∀ e ∈ zm_c113_3, zm_okq 113 e.2 := List.forall_mem_cons.mpr ⟨trivial, List.forall_mem_cons.mpr ⟨trivial, List.forall_mem_cons.mpr ⟨trivial, List.forall_mem_cons.mpr ⟨⟨_, _, _, rfl, by decide, zm_f4.1, zm_f4.2.1, zm_f4.2.2, Or.inl ⟨_, zw_116, Or.inl rfl⟩⟩, List.forall_mem_cons.mpr ⟨trivial, List.forall_mem_cons.mpr ⟨trivial, fun _ h => absurd h List.not_mem_nil⟩⟩⟩⟩⟩⟩
set_option maxRecDepth 100000 in
theorem zq_113_4 : ∀ e ∈ zm_c113_4, zm_okq 113 e.2 := List.forall_mem_cons.mpr ⟨trivial, List.forall_mem_cons.mpr ⟨⟨⟨_, _, _, rfl, by decide, zm_f4.1, zm_f4.2.1, zm_f4.2.2, Or.inl ⟨_, zw_116, Or.inl rfl⟩⟩, zm_okw_n rfl rfl⟩, List.forall_mem_cons.mpr ⟨trivial, List.forall_mem_cons.mpr ⟨trivial, List.forall_mem_cons.mpr ⟨trivial, List.forall_mem_cons.mpr ⟨trivial, fun _ h => absurd h List.not_mem_nil⟩⟩⟩⟩⟩⟩
set_option maxRecDepth 100000 in
theorem zq_113_5 : ∀ e ∈ zm_c113_5, zm_okq 113 e.2 := List.forall_mem_cons.mpr ⟨trivial, List.forall_mem_cons.mpr ⟨⟨_, rfl, zw_488, zw_497⟩, List.forall_mem_cons.mpr ⟨trivial, List.forall_mem_cons.mpr ⟨⟨⟨_, _, _, rfl, by decide, zm_f4.1, zm_f4.2.1, zm_f4.2.2, Or.inl ⟨_, zw_116, Or.inl rfl⟩⟩, zm_okw_n rfl rfl⟩, List.forall_mem_cons.mpr ⟨trivial, fun _ h => absurd h List.not_mem_nil⟩⟩⟩⟩⟩
set_option maxRecDepth 100000 in
theorem zq_114_0 : ∀ e ∈ zm_c114_0, zm_okq 114 e.2 := List.forall_mem_cons.mpr ⟨trivial, List.forall_mem_cons.mpr ⟨trivial, List.forall_mem_cons.mpr ⟨trivial, List.forall_mem_cons.mpr ⟨trivial, List.forall_mem_cons.mpr ⟨trivial, fun _ h => absurd h List.not_mem_nil⟩⟩⟩⟩⟩
set_option maxRecDepth 100000 in
theorem zq_115_0 : ∀ e ∈ zm_c115_0, zm_okq 115 e.2 := List.forall_mem_cons.mpr ⟨trivial, List.forall_mem_cons.mpr ⟨trivial, List.forall_mem_cons.mpr ⟨trivial, List.forall_mem_cons.mpr ⟨trivial, List.forall_mem_cons.mpr ⟨trivial, List.forall_mem_cons.mpr ⟨trivial, fun _ h => absurd h List.not_mem_nil⟩⟩⟩⟩⟩⟩
set_option maxRecDepth 100000 in
theorem zq_115_1 : ∀ e ∈ zm_c115_1, zm_okq 115 e.2 := List.forall_mem_cons.mpr ⟨trivial, List.forall_mem_cons.mpr ⟨trivial, List.forall_mem_cons.mpr ⟨trivial, List.forall_mem_cons.mpr ⟨trivial, List.forall_mem_cons.mpr ⟨trivial, List.forall_mem_cons.mpr ⟨trivial, fun _ h => absurd h List.not_mem_nil⟩⟩⟩⟩⟩⟩
set_option maxRecDepth 100000 in
theorem zq_116_0 : ∀ e ∈ zm_c116_0, zm_okq 116 e.2 := List.forall_mem_cons.mpr ⟨trivial, List.forall_mem_cons.mpr ⟨trivial, List.forall_mem_cons.mpr ⟨trivial, List.forall_mem_cons.mpr ⟨trivial, List.forall_mem_cons.mpr ⟨trivial, List.forall_mem_cons.mpr ⟨trivial, fun _ h => absurd h List.not_mem_nil⟩⟩⟩⟩⟩⟩
set_option maxRecDepth 100000 in
theorem zq_116_1 : ∀ e ∈ zm_c116_1, zm_okq 116 e.2 := List.forall_mem_cons.mpr ⟨trivial, List.forall_mem_cons.mpr ⟨trivial, List.forall_mem_cons.mpr ⟨trivial, List.forall_mem_cons.mpr ⟨trivial, List.forall_mem_cons.mpr ⟨zw_458, List.forall_mem_cons.mpr ⟨trivial, fun _ h => absurd h List.not_mem_nil⟩⟩⟩⟩⟩⟩
set_option maxRecDepth 100000 in
theorem zq_116_2 : ∀ e ∈ zm_c116_2, zm_okq 116 e.2 := List.forall_mem_cons.mpr ⟨trivial, List.forall_mem_cons.mpr ⟨trivial, List.forall_mem_cons.mpr ⟨trivial, List.forall_mem_cons.mpr ⟨trivial, List.forall_mem_cons.mpr ⟨trivial, List.forall_mem_cons.mpr ⟨trivial, fun _ h => absurd h List.not_mem_nil⟩⟩⟩⟩⟩⟩
set_option maxRecDepth 100000 in
theorem zq_117_0 : ∀ e ∈ zm_c117_0, zm_okq 117 e.2 := List.forall_mem_cons.mpr ⟨trivial, List.forall_mem_cons.mpr ⟨trivial, List.forall_mem_cons.mpr ⟨trivial, List.forall_mem_cons.mpr ⟨trivial, List.forall_mem_cons.mpr ⟨trivial, List.forall_mem_cons.mpr ⟨trivial, fun _ h => absurd h List.not_mem_nil⟩⟩⟩⟩⟩⟩
set_option maxRecDepth 100000 in
theorem zq_118_0 : ∀ e ∈ zm_c118_0, zm_okq 118 e.2 := List.forall_mem_cons.mpr ⟨trivial, List.forall_mem_cons.mpr ⟨trivial, List.forall_mem_cons.mpr ⟨trivial, List.forall_mem_cons.mpr ⟨⟨_, rfl, zw_488, zw_489⟩, List.forall_mem_cons.mpr ⟨trivial, List.forall_mem_cons.mpr ⟨trivial, fun _ h => absurd h List.not_mem_nil⟩⟩⟩⟩⟩⟩
set_option maxRecDepth 100000 in
theorem zq_118_1 : ∀ e ∈ zm_c118_1, zm_okq 118 e.2 := List.forall_mem_cons.mpr ⟨trivial, List.forall_mem_cons.mpr ⟨trivial, List.forall_mem_cons.mpr ⟨trivial, List.forall_mem_cons.mpr ⟨trivial, List.forall_mem_cons.mpr ⟨trivial, List.forall_mem_cons.mpr ⟨trivial, fun _ h => absurd h List.not_mem_nil⟩⟩⟩⟩⟩⟩
set_option maxRecDepth 100000 in
theorem zq_118_2 : ∀ e ∈ zm_c118_2, zm_okq 118 e.2 := List.forall_mem_cons.mpr ⟨trivial, List.forall_mem_cons.mpr ⟨trivial, List.forall_mem_cons.mpr ⟨trivial, List.forall_mem_cons.mpr ⟨trivial, List.forall_mem_cons.mpr ⟨trivial, List.forall_mem_cons.mpr ⟨trivial, fun _ h => absurd h List.not_mem_nil⟩⟩⟩⟩⟩⟩
set_option maxRecDepth 100000 in
theorem zq_118_3 : ∀ e ∈ zm_c118_3, zm_okq 118 e.2 := List.forall_mem_cons.mpr ⟨trivial, List.forall_mem_cons.mpr ⟨trivial, List.forall_mem_cons.mpr ⟨trivial, fun _ h => absurd h List.not_mem_nil⟩⟩⟩
end
section
theorem zk_1 : zm_okm 1 := ⟨by decide +kernel, Or.inl ⟨zw_31, rfl⟩⟩
theorem zk_3 : zm_okm 3 := ⟨by decide +kernel, Or.inl ⟨zw_39, rfl⟩⟩
theorem zk_4 : zm_okm 4 := ⟨by decide +kernel, Or.inl ⟨zw_73, rfl⟩⟩
theorem zk_5 : zm_okm 5 := ⟨by decide +kernel, Or.inl ⟨zw_79, rfl⟩⟩
theorem zk_6 : zm_okm 6 := ⟨by decide +kernel, Or.inl ⟨zw_106, rfl⟩⟩
theorem zk_7 : zm_okm 7 := ⟨by decide +kernel, Or.inl ⟨zw_109, rfl⟩⟩
theorem zk_8 : zm_okm 8 := ⟨by decide +kernel, Or.inl ⟨zw_112, rfl⟩⟩
theorem zk_9 : zm_okm 9 := ⟨by decide +kernel, Or.inl ⟨zw_184, rfl⟩⟩
theorem zk_10 : zm_okm 10 := ⟨by decide +kernel, Or.inl ⟨zw_188, rfl⟩⟩
theorem zk_11 : zm_okm 11 := ⟨by decide +kernel, Or.inr zw_191⟩
theorem zk_12 : zm_okm 12 := ⟨by decide +kernel, Or.inl ⟨zw_197, rfl⟩⟩
theorem zk_13 : zm_okm 13 := ⟨by decide +kernel, Or.inl ⟨zw_201, rfl⟩⟩
theorem zk_14 : zm_okm 14 := ⟨by decide +kernel, Or.inl ⟨zw_204, rfl⟩⟩
theorem zk_15 : zm_okm 15 := ⟨by decide +kernel, Or.inr zw_293⟩
theorem zk_16 : zm_okm 16 := ⟨by decide +kernel, Or.inl ⟨zw_297, rfl⟩⟩
theorem zk_17 : zm_okm 17 := ⟨by decide +kernel, Or.inl ⟨zw_301, rfl⟩⟩
theorem zk_18 : zm_okm 18 := ⟨by decide +kernel, Or.inl ⟨zw_305, rfl⟩⟩
theorem zk_19 : zm_okm 19 := ⟨by decide +kernel, Or.inl ⟨zw_308, rfl⟩⟩
theorem zk_20 : zm_okm 20 := ⟨by decide +kernel, Or.inl ⟨zw_312, rfl⟩⟩
theorem zk_21 : zm_okm 21 := ⟨by decide +kernel, Or.inl ⟨zw_317, rfl⟩⟩
theorem zk_22 : zm_okm 22 := ⟨by decide +kernel, Or.inl ⟨zw_321, rfl⟩⟩
theorem zk_23 : zm_okm 23 := ⟨by decide +kernel, Or.inl ⟨zw_325, rfl⟩⟩
theorem zk_24 : zm_okm 24 := ⟨by decide +kernel, Or.inl ⟨zw_331, rfl⟩⟩
theorem zk_25 : zm_okm 25 := ⟨by decide +kernel, Or.inl ⟨zw_335, rfl⟩⟩
theorem zk_26 : zm_okm 26 := ⟨by decide +kernel, Or.inl ⟨zw_339, rfl⟩⟩
theorem zk_27 : zm_okm 27 := ⟨by decide +kernel, Or.inl ⟨zw_342, rfl⟩⟩
theorem zk_28 : zm_okm 28 := ⟨by decide +kernel, Or.inl ⟨zw_346, rfl⟩⟩
theorem zk_29 : zm_okm 29 := ⟨by decide +kernel, Or.inl ⟨zw_349, rfl⟩⟩
theorem zk_30 : zm_okm 30 := ⟨by decide +kernel, Or.inl ⟨zw_353, rfl⟩⟩
theorem zk_31 : zm_okm 31 := ⟨by decide +kernel, Or.inl ⟨zw_358, rfl⟩⟩
theorem zk_32 : zm_okm 32 := ⟨by decide +kernel, Or.inl ⟨zw_383, rfl⟩⟩
theorem zk_33 : zm_okm 33 := ⟨by decide +kernel, Or.inr zw_400⟩
theorem zk_34 : zm_okm 34 := ⟨by decide +kernel, Or.inl ⟨zw_407, rfl⟩⟩
theorem zk_35 : zm_okm 35 := ⟨by decide +kernel, Or.inl ⟨zw_411, rfl⟩⟩
theorem zk_36 : zm_okm 36 := ⟨by decide +kernel, Or.inl ⟨zw_415, rfl⟩⟩
theorem zk_37 : zm_okm 37 := ⟨by decide +kernel, Or.inl ⟨zw_419, rfl⟩⟩
theorem zk_38 : zm_okm 38 := ⟨by decide +kernel, Or.inl ⟨zw_429, rfl⟩⟩
theorem zk_39 : zm_okm 39 := ⟨by decide +kernel, Or.inl ⟨zw_433, rfl⟩⟩
theorem zk_40 : zm_okm 40 := ⟨by decide +kernel, Or.inl ⟨zw_514, rfl⟩⟩
theorem zk_41 : zm_okm 41 := ⟨by decide +kernel, Or.inl ⟨zw_519, rfl⟩⟩
theorem zk_42 : zm_okm 42 := ⟨by decide +kernel, Or.inl ⟨zw_522, rfl⟩⟩
theorem zk_43 : zm_okm 43 := ⟨by decide +kernel, Or.inl ⟨zw_527, rfl⟩⟩
theorem zk_44 : zm_okm 44 := ⟨by decide +kernel, Or.inl ⟨zw_531, rfl⟩⟩
theorem zk_45 : zm_okm 45 := ⟨by decide +kernel, Or.inl ⟨zw_551, rfl⟩⟩
theorem zk_46 : zm_okm 46 := ⟨by decide +kernel, Or.inl ⟨zw_556, rfl⟩⟩
theorem zk_47 : zm_okm 47 := ⟨by decide +kernel, Or.inl ⟨zw_560, rfl⟩⟩
theorem zk_48 : zm_okm 48 := ⟨by decide +kernel, Or.inl ⟨zw_564, rfl⟩⟩
theorem zk_49 : zm_okm 49 := ⟨by decide +kernel, Or.inl ⟨zw_569, rfl⟩⟩
theorem zk_50 : zm_okm 50 := ⟨by decide +kernel, Or.inl ⟨zw_591, rfl⟩⟩
theorem zk_51 : zm_okm 51 := ⟨by decide +kernel, Or.inl ⟨zw_595, rfl⟩⟩
theorem zk_52 : zm_okm 52 := ⟨by decide +kernel, Or.inl ⟨zw_615, rfl⟩⟩
theorem zk_53 : zm_okm 53 := ⟨by decide +kernel, Or.inl ⟨zw_620, rfl⟩⟩
theorem zk_54 : zm_okm 54 := ⟨by decide +kernel, Or.inl ⟨zw_637, rfl⟩⟩
theorem zk_55 : zm_okm 55 := ⟨by decide +kernel, Or.inl ⟨zw_642, rfl⟩⟩
theorem zk_56 : zm_okm 56 := ⟨by decide +kernel, Or.inl ⟨zw_647, rfl⟩⟩
theorem zk_57 : zm_okm 57 := ⟨by decide +kernel, Or.inl ⟨zw_650, rfl⟩⟩
theorem zk_58 : zm_okm 58 := ⟨by decide +kernel, Or.inl ⟨zw_655, rfl⟩⟩
theorem zk_59 : zm_okm 59 := ⟨by decide +kernel, Or.inl ⟨zw_658, rfl⟩⟩
theorem zk_60 : zm_okm 60 := ⟨by decide +kernel, Or.inl ⟨zw_661, rfl⟩⟩
theorem zk_61 : zm_okm 61 := ⟨by decide +kernel, Or.inr zw_680⟩
theorem zk_62 : zm_okm 62 := ⟨by decide +kernel, Or.inl ⟨zw_684, rfl⟩⟩
theorem zk_63 : zm_okm 63 := ⟨by decide +kernel, Or.inr zw_688⟩
theorem zk_64 : zm_okm 64 := ⟨by decide +kernel, Or.inl ⟨zw_692, rfl⟩⟩
theorem zk_65 : zm_okm 65 := ⟨by decide +kernel, Or.inl ⟨zw_696, rfl⟩⟩
theorem zk_66 : zm_okm 66 := ⟨by decide +kernel, Or.inr zw_699⟩
theorem zk_67 : zm_okm 67 := ⟨by decide +kernel, Or.inl ⟨zw_703, rfl⟩⟩
theorem zk_68 : zm_okm 68 := ⟨by decide +kernel, Or.inr zw_706⟩
theorem zk_69 : zm_okm 69 := ⟨by decide +kernel, Or.inl ⟨zw_710, rfl⟩⟩
theorem zk_70 : zm_okm 70 := ⟨by decide +kernel, Or.inl ⟨zw_718, rfl⟩⟩
theorem zk_71 : zm_okm 71 := ⟨by decide +kernel, Or.inl ⟨zw_858, rfl⟩⟩
theorem zk_72 : zm_okm 72 := ⟨by decide +kernel, Or.inl ⟨zw_861, rfl⟩⟩
theorem zk_73 : zm_okm 73 := ⟨by decide +kernel, Or.inl ⟨zw_865, rfl⟩⟩
theorem zk_74 : zm_okm 74 := ⟨by decide +kernel, Or.inl ⟨zw_869, rfl⟩⟩
theorem zk_75 : zm_okm 75 := ⟨by decide +kernel, Or.inl ⟨zw_873, rfl⟩⟩
theorem zk_76 : zm_okm 76 := ⟨by decide +kernel, Or.inl ⟨zw_877, rfl⟩⟩
theorem zk_77 : zm_okm 77 := ⟨by decide +kernel, Or.inl ⟨zw_881, rfl⟩⟩
theorem zk_78 : zm_okm 78 := ⟨by decide +kernel, Or.inl ⟨zw_885, rfl⟩⟩
theorem zk_79 : zm_okm 79 := ⟨by decide +kernel, Or.inl ⟨zw_888, rfl⟩⟩
theorem zk_80 : zm_okm 80 := ⟨by decide +kernel, Or.inl ⟨zw_892, rfl⟩⟩
theorem zk_81 : zm_okm 81 := ⟨by decide +kernel, Or.inl ⟨zw_896, rfl⟩⟩
theorem zk_82 : zm_okm 82 := ⟨by decide +kernel, Or.inl ⟨zw_900, rfl⟩⟩
theorem zk_83 : zm_okm 83 := ⟨by decide +kernel, Or.inl ⟨zw_904, rfl⟩⟩
theorem zk_84 : zm_okm 84 := ⟨by decide +kernel, Or.inl ⟨zw_908, rfl⟩⟩
theorem zk_85 : zm_okm 85 := ⟨by decide +kernel, Or.inl ⟨zw_912, rfl⟩⟩
theorem zk_86 : zm_okm 86 := ⟨by decide +kernel, Or.inl ⟨zw_916, rfl⟩⟩
theorem zk_87 : zm_okm 87 := ⟨by decide +kernel, Or.inl ⟨zw_920, rfl⟩⟩
theorem zk_88 : zm_okm 88 := ⟨by decide +kernel, Or.inl ⟨zw_924, rfl⟩⟩
theorem zk_89 : zm_okm 89 := ⟨by decide +kernel, Or.inl ⟨zw_928, rfl⟩⟩
theorem zk_90 : zm_okm 90 := ⟨by decide +kernel, Or.inl ⟨zw_932, rfl⟩⟩
theorem zk_91 : zm_okm 91 := ⟨by decide +kernel, Or.inl ⟨zw_936, rfl⟩⟩
theorem zk_92 : zm_okm 92 := ⟨by decide +kernel, Or.inl ⟨zw_940, rfl⟩⟩
theorem zk_93 : zm_okm 93 := ⟨by decide +kernel, Or.inl ⟨zw_944, rfl⟩⟩
theorem zk_94 : zm_okm 94 := ⟨by decide +kernel, Or.inl ⟨zw_948, rfl⟩⟩
theorem zk_95 : zm_okm 95 := ⟨by decide +kernel, Or.inl ⟨zw_952, rfl⟩⟩
theorem zk_96 : zm_okm 96 := ⟨by decide +kernel, Or.inl ⟨zw_956, rfl⟩⟩
theorem zk_97 : zm_okm 97 := ⟨by decide +kernel, Or.inl ⟨zw_960, rfl⟩⟩
theorem zk_98 : zm_okm 98 := ⟨by decide +kernel, Or.inl ⟨zw_964, rfl⟩⟩
theorem zk_99 : zm_okm 99 := ⟨by decide +kernel, Or.inl ⟨zw_968, rfl⟩⟩
theorem zk_100 : zm_okm 100 := ⟨by decide +kernel, Or.inl ⟨zw_972, rfl⟩⟩
theorem zk_101 : zm_okm 101 := ⟨by decide +kernel, Or.inl ⟨zw_976, rfl⟩⟩
theorem zk_102 : zm_okm 102 := ⟨by decide +kernel, Or.inl ⟨zw_980, rfl⟩⟩
theorem zk_103 : zm_okm 103 := ⟨by decide +kernel, Or.inl ⟨zw_984, rfl⟩⟩
theorem zk_104 : zm_okm 104 := ⟨by decide +kernel, Or.inl ⟨zw_988, rfl⟩⟩
theorem zk_105 : zm_okm 105 := ⟨by decide +kernel, Or.inl ⟨zw_992, rfl⟩⟩
theorem zk_106 : zm_okm 106 := ⟨by decide +kernel, Or.inl ⟨zw_996, rfl⟩⟩
theorem zk_107 : zm_okm 107 := ⟨by decide +kernel, Or.inl ⟨zw_437, rfl⟩⟩
theorem zk_108 : zm_okm 108 := ⟨by decide +kernel, Or.inl ⟨zw_501, rfl⟩⟩
theorem zk_109 : zm_okm 109 := ⟨by decide +kernel, Or.inl ⟨zw_511, rfl⟩⟩
theorem zk_110 : zm_okm 110 := ⟨by decide +kernel, Or.inl ⟨zw_441, rfl⟩⟩
theorem zk_111 : zm_okm 111 := ⟨by decide +kernel, Or.inl ⟨zw_445, rfl⟩⟩
theorem zk_112 : zm_okm 112 := ⟨by decide +kernel, Or.inl ⟨zw_449, rfl⟩⟩
theorem zk_113 : zm_okm 113 := ⟨by decide +kernel, Or.inl ⟨zw_453, rfl⟩⟩
theorem zk_114 : zm_okm 114 := ⟨by decide +kernel, Or.inl ⟨zw_504, rfl⟩⟩
theorem zk_115 : zm_okm 115 := ⟨by decide +kernel, Or.inl ⟨zw_507, rfl⟩⟩
theorem zk_116 : zm_okm 116 := ⟨by decide +kernel, Or.inl ⟨zw_456, rfl⟩⟩
theorem zk_117 : zm_okm 117 := ⟨by decide +kernel, Or.inl ⟨zw_464, rfl⟩⟩
theorem zk_118 : zm_okm 118 := ⟨by decide +kernel, Or.inl ⟨zw_486, rfl⟩⟩
theorem zc_0_4 : zm_okI 0 43 1 0 := ⟨⟨zk_1, Or.inl zw_29, by decide +kernel, by decide +kernel⟩, zw_30, rfl, zw_31⟩
theorem zc_0_12 : zm_okI 0 46 70 0 := ⟨⟨zk_70, Or.inl zw_716, by decide +kernel, by decide +kernel⟩, zw_717, rfl, zw_718⟩
theorem zc_0_108 : zm_okS 0 49 11 3 := ⟨⟨zk_11, Or.inl zw_189, by decide +kernel, by decide +kernel⟩, zw_190, zw_0⟩
theorem zc_0_136 : zm_okV 0 54 71 1 5 := ⟨⟨zk_71, Or.inl zw_855, by decide +kernel, by decide +kernel⟩, zw_856, _, _, _, rfl, zw_857⟩
theorem zc_0_146 : zm_okS 0 55 15 2 := ⟨⟨zk_15, Or.inl zw_291, by decide +kernel, by decide +kernel⟩, zw_292, zw_0⟩
theorem zc_0_152 : zm_okV 0 58 75 0 5 := ⟨⟨zk_75, Or.inl zw_870, by decide +kernel, by decide +kernel⟩, zw_871, _, _, _, rfl, zw_872⟩
theorem zc_0_162 : zm_okS 0 59 33 2 := ⟨⟨zk_33, Or.inl zw_398, by decide +kernel, by decide +kernel⟩, zw_399, zw_0⟩
theorem zc_0_168 : zm_okV 0 61 81 0 5 := ⟨⟨zk_81, Or.inl zw_893, by decide +kernel, by decide +kernel⟩, zw_894, _, _, _, rfl, zw_895⟩
theorem zc_0_178 : zm_okS 0 62 61 2 := ⟨⟨zk_61, Or.inl zw_678, by decide +kernel, by decide +kernel⟩, zw_679, zw_0⟩
theorem zc_0_184 : zm_okV 0 64 101 0 5 := ⟨⟨zk_101, Or.inl zw_973, by decide +kernel, by decide +kernel⟩, zw_974, _, _, _, rfl, zw_975⟩
theorem zc_0_194 : zm_okS 0 65 63 2 := ⟨⟨zk_63, Or.inl zw_686, by decide +kernel, by decide +kernel⟩, zw_687, zw_0⟩
theorem zc_0_200 : zm_okV 0 67 102 0 5 := ⟨⟨zk_102, Or.inl zw_977, by decide +kernel, by decide +kernel⟩, zw_978, _, _, _, rfl, zw_979⟩
theorem zc_0_210 : zm_okS 0 68 66 2 := ⟨⟨zk_66, Or.inl zw_697, by decide +kernel, by decide +kernel⟩, zw_698, zw_0⟩
theorem zc_0_216 : zm_okV 0 70 104 0 5 := ⟨⟨zk_104, Or.inl zw_985, by decide +kernel, by decide +kernel⟩, zw_986, _, _, _, rfl, zw_987⟩
theorem zc_0_231 : zm_okS 0 71 68 2 := ⟨⟨zk_68, Or.inl zw_704, by decide +kernel, by decide +kernel⟩, zw_705, zw_0⟩
theorem zc_0_243 : zm_okV 0 74 105 1 5 := ⟨⟨zk_105, Or.inl zw_989, by decide +kernel, by decide +kernel⟩, zw_990, _, _, _, rfl, zw_991⟩
theorem zc_0_256 : zm_okV 0 75 9 1 0 := ⟨⟨zk_9, Or.inl zw_181, by decide +kernel, by decide +kernel⟩, zw_182, _, _, _, rfl, zw_183⟩
theorem zc_0_266 : zm_okV 0 79 106 1 5 := ⟨⟨zk_106, Or.inl zw_993, by decide +kernel, by decide +kernel⟩, zw_994, _, _, _, rfl, zw_995⟩
theorem zc_1_1 : zm_okO 1 1 := ⟨zw_32, zw_33, zw_34⟩
theorem zc_1_9 : zm_okI 1 9 3 0 := ⟨⟨zk_3, Or.inl zw_37, by decide +kernel, by decide +kernel⟩, zw_38, rfl, zw_39⟩
theorem zc_1_20 : zm_okI 1 18 4 0 := ⟨⟨zk_4, Or.inl zw_71, by decide +kernel, by decide +kernel⟩, zw_72, rfl, zw_73⟩
theorem zc_3_1 : zm_okO 3 3 := ⟨zw_40, zw_33, zw_34⟩
theorem zc_4_1 : zm_okO 4 3 := ⟨zw_74, zw_33, zw_34⟩
theorem zc_4_9 : zm_okI 4 11 5 0 := ⟨⟨zk_5, Or.inr ⟨_, zw_77⟩, by decide +kernel, by decide +kernel⟩, zw_78, rfl, zw_79⟩
theorem zc_4_28 : zm_okI 4 24 6 0 := ⟨⟨zk_6, Or.inl zw_104, by decide +kernel, by decide +kernel⟩, zw_105, rfl, zw_106⟩
theorem zc_4_39 : zm_okI 4 24 6 0 := ⟨⟨zk_6, Or.inl zw_104, by decide +kernel, by decide +kernel⟩, zw_105, rfl, zw_106⟩
theorem zc_4_50 : zm_okI 4 24 6 0 := ⟨⟨zk_6, Or.inl zw_104, by decide +kernel, by decide +kernel⟩, zw_105, rfl, zw_106⟩
theorem zc_5_1 : zm_okO 5 1 := ⟨zw_80, zw_33, zw_34⟩
theorem zc_6_1 : zm_okI 6 1 7 0 := ⟨⟨zk_7, Or.inl zw_107, by decide +kernel, by decide +kernel⟩, zw_108, rfl, zw_109⟩
theorem zc_7_1 : zm_okI 7 1 8 0 := ⟨⟨zk_8, Or.inl zw_110, by decide +kernel, by decide +kernel⟩, zw_111, rfl, zw_112⟩
theorem zc_8_1 : zm_okO 8 1 := ⟨zw_113, zw_33, zw_34⟩
theorem zc_9_65 : zm_okV 9 111 10 0 0 := ⟨⟨zk_10, Or.inl zw_185, by decide +kernel, by decide +kernel⟩, zw_187, _, _, _, rfl, zm_memS 0 rfl⟩
theorem zc_11_4 : zm_okV 11 7 12 1 0 := ⟨⟨zk_12, Or.inl zw_194, by decide +kernel, by decide +kernel⟩, zw_195, _, _, _, rfl, zw_196⟩
theorem zc_12_5 : zm_okV 12 29 13 1 1 := ⟨⟨zk_13, Or.inl zw_198, by decide +kernel, by decide +kernel⟩, zw_199, _, _, _, rfl, zw_200⟩
theorem zc_13_14 : zm_okS 13 22 14 2 := ⟨⟨zk_14, Or.inl zw_202, by decide +kernel, by decide +kernel⟩, zw_203, zw_2⟩
theorem zc_13_100 : zm_okS 13 22 14 2 := ⟨⟨zk_14, Or.inl zw_202, by decide +kernel, by decide +kernel⟩, zw_203, zw_2⟩
theorem zc_15_3 : zm_okV 15 17 16 0 0 := ⟨⟨zk_16, Or.inl zw_294, by decide +kernel, by decide +kernel⟩, zw_295, _, _, _, rfl, zw_296⟩
theorem zc_16_4 : zm_okV 16 33 17 0 1 := ⟨⟨zk_17, Or.inl zw_298, by decide +kernel, by decide +kernel⟩, zw_299, _, _, _, rfl, zw_300⟩
theorem zc_17_1 : zm_okV 17 41 18 0 1 := ⟨⟨zk_18, Or.inl zw_302, by decide +kernel, by decide +kernel⟩, zw_304, _, _, _, rfl, zm_memS 2 rfl⟩
theorem zc_17_25 : zm_okS 17 50 19 1 := ⟨⟨zk_19, Or.inl zw_306, by decide +kernel, by decide +kernel⟩, zw_307, zw_2⟩
theorem zc_17_36 : zm_okV 17 54 20 1 1 := ⟨⟨zk_20, Or.inl zw_309, by decide +kernel, by decide +kernel⟩, zw_311, _, _, _, rfl, zm_memS 3 rfl⟩
theorem zc_17_63 : zm_okV 17 58 21 0 1 := ⟨⟨zk_21, Or.inl zw_314, by decide +kernel, by decide +kernel⟩, zw_316, _, _, _, rfl, zm_memS 4 rfl⟩
theorem zc_17_97 : zm_okV 17 54 20 1 1 := ⟨⟨zk_20, Or.inl zw_309, by decide +kernel, by decide +kernel⟩, zw_311, _, _, _, rfl, zm_memS 3 rfl⟩
theorem zc_17_120 : zm_okV 17 66 24 0 1 := ⟨⟨zk_24, Or.inl zw_328, by decide +kernel, by decide +kernel⟩, zw_330, _, _, _, rfl, zm_memS 7 rfl⟩
theorem zc_17_123 : zm_okI 17 70 32 3 := ⟨⟨zk_32, Or.inl zw_381, by decide +kernel, by decide +kernel⟩, zw_382, rfl, zw_383⟩
theorem zc_21_29 : zm_okV 21 73 22 1 1 := ⟨⟨zk_22, Or.inl zw_318, by decide +kernel, by decide +kernel⟩, zw_320, _, _, _, rfl, zm_memS 5 rfl⟩
theorem zc_22_14 : zm_okV 22 103 23 1 1 := ⟨⟨zk_23, Or.inl zw_322, by decide +kernel, by decide +kernel⟩, zw_324, _, _, _, rfl, zm_memS 6 rfl⟩
theorem zc_24_7 : zm_okV 24 79 25 1 1 := ⟨⟨zk_25, Or.inl zw_332, by decide +kernel, by decide +kernel⟩, zw_334, _, _, _, rfl, zm_memS 8 rfl⟩
theorem zc_24_28 : zm_okV 24 54 20 1 1 := ⟨⟨zk_20, Or.inl zw_309, by decide +kernel, by decide +kernel⟩, zw_311, _, _, _, rfl, zm_memS 3 rfl⟩
theorem zc_25_23 : zm_okV 25 83 26 2 1 := ⟨⟨zk_26, Or.inl zw_336, by decide +kernel, by decide +kernel⟩, zw_338, _, _, _, rfl, zm_memS 9 rfl⟩
theorem zc_25_34 : zm_okV 25 54 20 1 1 := ⟨⟨zk_20, Or.inl zw_309, by decide +kernel, by decide +kernel⟩, zw_311, _, _, _, rfl, zm_memS 3 rfl⟩
theorem zc_25_48 : zm_okS 25 87 27 1 := ⟨⟨zk_27, Or.inl zw_340, by decide +kernel, by decide +kernel⟩, zw_341, zw_2⟩
theorem zc_25_80 : zm_okV 25 91 30 1 1 := ⟨⟨zk_30, Or.inl zw_350, by decide +kernel, by decide +kernel⟩, zw_352, _, _, _, rfl, zm_memS 11 rfl⟩
theorem zc_25_88 : zm_okV 25 79 25 1 1 := ⟨⟨zk_25, Or.inl zw_332, by decide +kernel, by decide +kernel⟩, zw_334, _, _, _, rfl, zm_memS 8 rfl⟩
theorem zc_25_102 : zm_okV 25 79 25 1 1 := ⟨⟨zk_25, Or.inl zw_332, by decide +kernel, by decide +kernel⟩, zw_334, _, _, _, rfl, zm_memS 8 rfl⟩
theorem zc_25_120 : zm_okV 25 79 25 1 1 := ⟨⟨zk_25, Or.inl zw_332, by decide +kernel, by decide +kernel⟩, zw_334, _, _, _, rfl, zm_memS 8 rfl⟩
theorem zc_25_141 : zm_okI 25 97 31 5 := ⟨⟨zk_31, Or.inl zw_356, by decide +kernel, by decide +kernel⟩, zw_357, rfl, zw_358⟩
theorem zc_26_1 : zm_okS 26 87 27 1 := ⟨⟨zk_27, Or.inl zw_340, by decide +kernel, by decide +kernel⟩, zw_341, zw_2⟩
theorem zc_26_11 : zm_okV 26 106 28 1 1 := ⟨⟨zk_28, Or.inl zw_343, by decide +kernel, by decide +kernel⟩, zw_345, _, _, _, rfl, zm_memS 10 rfl⟩
theorem zc_28_1 : zm_okS 28 100 29 1 := ⟨⟨zk_29, Or.inl zw_347, by decide +kernel, by decide +kernel⟩, zw_348, zw_2⟩
theorem zc_28_8 : zm_okS 28 50 19 1 := ⟨⟨zk_19, Or.inl zw_306, by decide +kernel, by decide +kernel⟩, zw_307, zw_2⟩
theorem zc_28_22 : zm_okV 28 103 23 1 1 := ⟨⟨zk_23, Or.inl zw_322, by decide +kernel, by decide +kernel⟩, zw_324, _, _, _, rfl, zm_memS 6 rfl⟩
theorem zc_30_1 : zm_okS 30 100 29 1 := ⟨⟨zk_29, Or.inl zw_347, by decide +kernel, by decide +kernel⟩, zw_348, zw_2⟩
theorem zc_30_20 : zm_okI 30 97 31 5 := ⟨⟨zk_31, Or.inl zw_356, by decide +kernel, by decide +kernel⟩, zw_357, rfl, zw_358⟩
theorem zc_30_25 : zm_okS 30 50 19 1 := ⟨⟨zk_19, Or.inl zw_306, by decide +kernel, by decide +kernel⟩, zw_307, zw_2⟩
theorem zc_30_44 : zm_okI 30 97 31 5 := ⟨⟨zk_31, Or.inl zw_356, by decide +kernel, by decide +kernel⟩, zw_357, rfl, zw_358⟩
theorem zc_30_50 : zm_okV 30 103 23 1 1 := ⟨⟨zk_23, Or.inl zw_322, by decide +kernel, by decide +kernel⟩, zw_324, _, _, _, rfl, zm_memS 6 rfl⟩
theorem zc_30_68 : zm_okI 30 97 31 5 := ⟨⟨zk_31, Or.inl zw_356, by decide +kernel, by decide +kernel⟩, zw_357, rfl, zw_358⟩
theorem zc_30_82 : zm_okI 30 97 31 5 := ⟨⟨zk_31, Or.inl zw_356, by decide +kernel, by decide +kernel⟩, zw_357, rfl, zw_358⟩
theorem zc_31_1 : zm_okO 31 1 := ⟨zw_359, zw_33, zw_34⟩
theorem zc_32_1 : zm_okO 32 1 := ⟨zw_384, zw_33, zw_34⟩
theorem zc_33_3 : zm_okV 33 21 34 0 0 := ⟨⟨zk_34, Or.inl zw_404, by decide +kernel, by decide +kernel⟩, zw_405, _, _, _, rfl, zw_406⟩
theorem zc_34_4 : zm_okV 34 44 35 0 1 := ⟨⟨zk_35, Or.inl zw_408, by decide +kernel, by decide +kernel⟩, zw_409, _, _, _, rfl, zw_410⟩
theorem zc_34_17 : zm_okV 34 52 36 0 2 := ⟨⟨zk_36, Or.inl zw_412, by decide +kernel, by decide +kernel⟩, zw_413, _, _, _, rfl, zw_414⟩
theorem zc_34_35 : zm_okV 34 61 37 3 0 := ⟨⟨zk_37, Or.inl zw_416, by decide +kernel, by decide +kernel⟩, zw_418, _, _, _, rfl, zm_memS 12 rfl⟩
theorem zc_35_1 : zm_okV 35 41 18 0 1 := ⟨⟨zk_18, Or.inl zw_302, by decide +kernel, by decide +kernel⟩, zw_304, _, _, _, rfl, zm_memS 2 rfl⟩
theorem zc_35_5 : zm_okV 35 66 24 0 1 := ⟨⟨zk_24, Or.inl zw_328, by decide +kernel, by decide +kernel⟩, zw_330, _, _, _, rfl, zm_memS 7 rfl⟩
theorem zc_37_132 : zm_okV 37 148 38 1 2 := ⟨⟨zk_38, Or.inl zw_426, by decide +kernel, by decide +kernel⟩, zw_427, _, _, _, rfl, zw_428⟩
theorem zc_37_150 : zm_okS 37 155 40 2 := ⟨⟨zk_40, Or.inl zw_512, by decide +kernel, by decide +kernel⟩, zw_513, zw_1⟩
theorem zc_37_154 : zm_okV 37 89 41 2 0 := ⟨⟨zk_41, Or.inl zw_516, by decide +kernel, by decide +kernel⟩, zw_518, _, _, _, rfl, zm_memS 17 rfl⟩
theorem zc_37_164 : zm_okV 37 159 43 2 0 := ⟨⟨zk_43, Or.inl zw_524, by decide +kernel, by decide +kernel⟩, zw_526, _, _, _, rfl, zm_memS 18 rfl⟩
theorem zc_37_178 : zm_okV 37 167 47 2 0 := ⟨⟨zk_47, Or.inl zw_557, by decide +kernel, by decide +kernel⟩, zw_559, _, _, _, rfl, zm_memS 21 rfl⟩
theorem zc_37_187 : zm_okV 37 167 47 2 0 := ⟨⟨zk_47, Or.inl zw_557, by decide +kernel, by decide +kernel⟩, zw_559, _, _, _, rfl, zm_memS 21 rfl⟩
theorem zc_37_190 : zm_okV 37 174 50 2 2 := ⟨⟨zk_50, Or.inl zw_588, by decide +kernel, by decide +kernel⟩, zw_589, _, _, _, rfl, zw_590⟩
theorem zc_37_198 : zm_okV 37 178 51 3 0 := ⟨⟨zk_51, Or.inl zw_592, by decide +kernel, by decide +kernel⟩, zw_594, _, _, _, rfl, zm_memS 22 rfl⟩
theorem zc_37_212 : zm_okV 37 61 37 3 0 := ⟨⟨zk_37, Or.inl zw_416, by decide +kernel, by decide +kernel⟩, zw_418, _, _, _, rfl, zm_memS 12 rfl⟩
theorem zc_37_215 : zm_okS 37 124 54 1 := ⟨⟨zk_54, Or.inl zw_635, by decide +kernel, by decide +kernel⟩, zw_636, zw_1⟩
theorem zc_37_222 : zm_okV 37 89 41 2 0 := ⟨⟨zk_41, Or.inl zw_516, by decide +kernel, by decide +kernel⟩, zw_518, _, _, _, rfl, zm_memS 17 rfl⟩
theorem zc_37_236 : zm_okV 37 61 37 3 0 := ⟨⟨zk_37, Or.inl zw_416, by decide +kernel, by decide +kernel⟩, zw_418, _, _, _, rfl, zm_memS 12 rfl⟩
theorem zc_37_239 : zm_okS 37 124 54 1 := ⟨⟨zk_54, Or.inl zw_635, by decide +kernel, by decide +kernel⟩, zw_636, zw_1⟩
theorem zc_37_246 : zm_okV 37 89 41 2 0 := ⟨⟨zk_41, Or.inl zw_516, by decide +kernel, by decide +kernel⟩, zw_518, _, _, _, rfl, zm_memS 17 rfl⟩
theorem zc_37_263 : zm_okV 37 61 37 3 0 := ⟨⟨zk_37, Or.inl zw_416, by decide +kernel, by decide +kernel⟩, zw_418, _, _, _, rfl, zm_memS 12 rfl⟩
theorem zc_37_266 : zm_okS 37 181 55 1 := ⟨⟨zk_55, Or.inl zw_640, by decide +kernel, by decide +kernel⟩, zw_641, zw_1⟩
theorem zc_37_269 : zm_okV 37 148 38 1 2 := ⟨⟨zk_38, Or.inl zw_426, by decide +kernel, by decide +kernel⟩, zw_427, _, _, _, rfl, zw_428⟩
theorem zc_37_277 : zm_okV 37 184 56 3 0 := ⟨⟨zk_56, Or.inl zw_644, by decide +kernel, by decide +kernel⟩, zw_646, _, _, _, rfl, zm_memS 23 rfl⟩
theorem zc_37_285 : zm_okV 37 187 58 3 0 := ⟨⟨zk_58, Or.inl zw_652, by decide +kernel, by decide +kernel⟩, zw_654, _, _, _, rfl, zm_memS 24 rfl⟩
theorem zc_38_2 : zm_okV 38 44 39 1 2 := ⟨⟨zk_39, Or.inl zw_430, by decide +kernel, by decide +kernel⟩, zw_432, _, _, _, rfl, zm_memS 13 rfl⟩
theorem zc_39_8 : zm_okV 39 62 107 0 4 := ⟨⟨zk_107, Or.inl zw_434, by decide +kernel, by decide +kernel⟩, zw_435, _, _, _, rfl, zw_436⟩
theorem zc_39_22 : zm_okI 39 11 5 0 := ⟨⟨zk_5, Or.inr ⟨_, zw_77⟩, by decide +kernel, by decide +kernel⟩, zw_78, rfl, zw_79⟩
theorem zc_39_25 : zm_okV 39 69 110 1 4 := ⟨⟨zk_110, Or.inl zw_438, by decide +kernel, by decide +kernel⟩, zw_439, _, _, _, rfl, zw_440⟩
theorem zc_39_37 : zm_okV 39 73 108 1 4 := ⟨⟨zk_108, Or.inl zw_498, by decide +kernel, by decide +kernel⟩, zw_499, _, _, _, rfl, zw_500⟩
theorem zc_41_18 : zm_okS 41 241 42 1 := ⟨⟨zk_42, Or.inl zw_520, by decide +kernel, by decide +kernel⟩, zw_521, zw_1⟩
theorem zc_41_49 : zm_okV 41 61 37 3 0 := ⟨⟨zk_37, Or.inl zw_416, by decide +kernel, by decide +kernel⟩, zw_418, _, _, _, rfl, zm_memS 12 rfl⟩
theorem zc_43_2 : zm_okV 43 101 44 1 0 := ⟨⟨zk_44, Or.inl zw_528, by decide +kernel, by decide +kernel⟩, zw_530, _, _, _, rfl, zm_memS 19 rfl⟩
theorem zc_43_17 : zm_okV 43 190 45 3 0 := ⟨⟨zk_45, Or.inl zw_548, by decide +kernel, by decide +kernel⟩, zw_550, _, _, _, rfl, zm_memS 20 rfl⟩
theorem zc_43_27 : zm_okV 43 194 46 2 2 := ⟨⟨zk_46, Or.inl zw_553, by decide +kernel, by decide +kernel⟩, zw_554, _, _, _, rfl, zw_555⟩
theorem zc_45_49 : zm_okV 45 61 37 3 0 := ⟨⟨zk_37, Or.inl zw_416, by decide +kernel, by decide +kernel⟩, zw_418, _, _, _, rfl, zm_memS 12 rfl⟩
theorem zc_46_2 : zm_okV 46 44 39 1 2 := ⟨⟨zk_39, Or.inl zw_430, by decide +kernel, by decide +kernel⟩, zw_432, _, _, _, rfl, zm_memS 13 rfl⟩
theorem zc_47_14 : zm_okS 47 155 40 2 := ⟨⟨zk_40, Or.inl zw_512, by decide +kernel, by decide +kernel⟩, zw_513, zw_1⟩
theorem zc_47_24 : zm_okV 47 254 48 2 2 := ⟨⟨zk_48, Or.inl zw_561, by decide +kernel, by decide +kernel⟩, zw_562, _, _, _, rfl, zw_563⟩
theorem zc_48_8 : zm_okV 48 62 107 0 4 := ⟨⟨zk_107, Or.inl zw_434, by decide +kernel, by decide +kernel⟩, zw_435, _, _, _, rfl, zw_436⟩
theorem zc_48_22 : zm_okI 48 68 49 0 := ⟨⟨zk_49, Or.inr ⟨_, zw_567⟩, by decide +kernel, by decide +kernel⟩, zw_568, rfl, zw_569⟩
theorem zc_48_25 : zm_okV 48 69 110 1 4 := ⟨⟨zk_110, Or.inl zw_438, by decide +kernel, by decide +kernel⟩, zw_439, _, _, _, rfl, zw_440⟩
theorem zc_48_37 : zm_okV 48 73 108 1 4 := ⟨⟨zk_108, Or.inl zw_498, by decide +kernel, by decide +kernel⟩, zw_499, _, _, _, rfl, zw_500⟩
theorem zc_49_1 : zm_okO 49 1 := ⟨zw_570, zw_33, zw_34⟩
theorem zc_50_2 : zm_okV 50 44 39 1 2 := ⟨⟨zk_39, Or.inl zw_430, by decide +kernel, by decide +kernel⟩, zw_432, _, _, _, rfl, zm_memS 13 rfl⟩
theorem zc_51_9 : zm_okV 51 61 37 3 0 := ⟨⟨zk_37, Or.inl zw_416, by decide +kernel, by decide +kernel⟩, zw_418, _, _, _, rfl, zm_memS 12 rfl⟩
theorem zc_51_39 : zm_okV 51 101 44 1 0 := ⟨⟨zk_44, Or.inl zw_528, by decide +kernel, by decide +kernel⟩, zw_530, _, _, _, rfl, zm_memS 19 rfl⟩
theorem zc_51_59 : zm_okV 51 167 47 2 0 := ⟨⟨zk_47, Or.inl zw_557, by decide +kernel, by decide +kernel⟩, zw_559, _, _, _, rfl, zm_memS 21 rfl⟩
theorem zc_51_62 : zm_okV 51 210 52 2 2 := ⟨⟨zk_52, Or.inl zw_612, by decide +kernel, by decide +kernel⟩, zw_613, _, _, _, rfl, zw_614⟩
theorem zc_51_91 : zm_okV 51 194 46 2 2 := ⟨⟨zk_46, Or.inl zw_553, by decide +kernel, by decide +kernel⟩, zw_554, _, _, _, rfl, zw_555⟩
theorem zc_51_101 : zm_okV 51 190 45 3 0 := ⟨⟨zk_45, Or.inl zw_548, by decide +kernel, by decide +kernel⟩, zw_550, _, _, _, rfl, zm_memS 20 rfl⟩
theorem zc_52_8 : zm_okV 52 62 107 0 4 := ⟨⟨zk_107, Or.inl zw_434, by decide +kernel, by decide +kernel⟩, zw_435, _, _, _, rfl, zw_436⟩
theorem zc_52_22 : zm_okI 52 93 53 0 := ⟨⟨zk_53, Or.inr ⟨_, zw_618⟩, by decide +kernel, by decide +kernel⟩, zw_619, rfl, zw_620⟩
theorem zc_52_25 : zm_okV 52 69 110 1 4 := ⟨⟨zk_110, Or.inl zw_438, by decide +kernel, by decide +kernel⟩, zw_439, _, _, _, rfl, zw_440⟩
theorem zc_52_37 : zm_okV 52 73 108 1 4 := ⟨⟨zk_108, Or.inl zw_498, by decide +kernel, by decide +kernel⟩, zw_499, _, _, _, rfl, zw_500⟩
theorem zc_53_1 : zm_okO 53 1 := ⟨zw_621, zw_33, zw_34⟩
theorem zc_56_9 : zm_okV 56 61 37 3 0 := ⟨⟨zk_37, Or.inl zw_416, by decide +kernel, by decide +kernel⟩, zw_418, _, _, _, rfl, zm_memS 12 rfl⟩
theorem zc_56_12 : zm_okS 56 77 57 1 := ⟨⟨zk_57, Or.inl zw_648, by decide +kernel, by decide +kernel⟩, zw_649, zw_1⟩
theorem zc_56_38 : zm_okV 56 61 37 3 0 := ⟨⟨zk_37, Or.inl zw_416, by decide +kernel, by decide +kernel⟩, zw_418, _, _, _, rfl, zm_memS 12 rfl⟩
theorem zc_58_9 : zm_okV 58 61 37 3 0 := ⟨⟨zk_37, Or.inl zw_416, by decide +kernel, by decide +kernel⟩, zw_418, _, _, _, rfl, zm_memS 12 rfl⟩
theorem zc_58_12 : zm_okS 58 77 57 1 := ⟨⟨zk_57, Or.inl zw_648, by decide +kernel, by decide +kernel⟩, zw_649, zw_1⟩
theorem zc_58_26 : zm_okV 58 61 37 3 0 := ⟨⟨zk_37, Or.inl zw_416, by decide +kernel, by decide +kernel⟩, zw_418, _, _, _, rfl, zm_memS 12 rfl⟩
theorem zc_58_29 : zm_okS 58 77 57 1 := ⟨⟨zk_57, Or.inl zw_648, by decide +kernel, by decide +kernel⟩, zw_649, zw_1⟩
theorem zc_58_46 : zm_okS 58 227 59 3 := ⟨⟨zk_59, Or.inl zw_656, by decide +kernel, by decide +kernel⟩, zw_657, zw_1⟩
theorem zc_58_49 : zm_okV 58 148 38 1 2 := ⟨⟨zk_38, Or.inl zw_426, by decide +kernel, by decide +kernel⟩, zw_427, _, _, _, rfl, zw_428⟩
theorem zc_59_74 : zm_okS 59 231 60 1 := ⟨⟨zk_60, Or.inl zw_659, by decide +kernel, by decide +kernel⟩, zw_660, zw_1⟩
theorem zc_59_81 : zm_okS 59 231 60 1 := ⟨⟨zk_60, Or.inl zw_659, by decide +kernel, by decide +kernel⟩, zw_660, zw_1⟩
theorem zc_61_3 : zm_okV 61 30 62 0 0 := ⟨⟨zk_62, Or.inl zw_681, by decide +kernel, by decide +kernel⟩, zw_682, _, _, _, rfl, zw_683⟩
theorem zc_62_21 : zm_okS 62 77 57 1 := ⟨⟨zk_57, Or.inl zw_648, by decide +kernel, by decide +kernel⟩, zw_649, zw_1⟩
theorem zc_63_3 : zm_okV 63 33 64 0 0 := ⟨⟨zk_64, Or.inl zw_689, by decide +kernel, by decide +kernel⟩, zw_690, _, _, _, rfl, zw_691⟩
theorem zc_64_1 : zm_okV 64 81 65 0 0 := ⟨⟨zk_65, Or.inl zw_693, by decide +kernel, by decide +kernel⟩, zw_695, _, _, _, rfl, zm_memS 25 rfl⟩
theorem zc_64_11 : zm_okV 64 89 41 2 0 := ⟨⟨zk_41, Or.inl zw_516, by decide +kernel, by decide +kernel⟩, zw_518, _, _, _, rfl, zm_memS 17 rfl⟩
theorem zc_64_14 : zm_okS 64 77 57 1 := ⟨⟨zk_57, Or.inl zw_648, by decide +kernel, by decide +kernel⟩, zw_649, zw_1⟩
theorem zc_65_25 : zm_okS 65 124 54 1 := ⟨⟨zk_54, Or.inl zw_635, by decide +kernel, by decide +kernel⟩, zw_636, zw_1⟩
theorem zc_66_3 : zm_okV 66 36 67 0 0 := ⟨⟨zk_67, Or.inl zw_700, by decide +kernel, by decide +kernel⟩, zw_701, _, _, _, rfl, zw_702⟩
theorem zc_67_1 : zm_okV 67 81 65 0 0 := ⟨⟨zk_65, Or.inl zw_693, by decide +kernel, by decide +kernel⟩, zw_695, _, _, _, rfl, zm_memS 25 rfl⟩
theorem zc_67_12 : zm_okV 67 89 41 2 0 := ⟨⟨zk_41, Or.inl zw_516, by decide +kernel, by decide +kernel⟩, zw_518, _, _, _, rfl, zm_memS 17 rfl⟩
theorem zc_68_2 : zm_okV 68 39 69 1 0 := ⟨⟨zk_69, Or.inl zw_707, by decide +kernel, by decide +kernel⟩, zw_708, _, _, _, rfl, zw_709⟩
theorem zc_69_22 : zm_okV 69 101 44 1 0 := ⟨⟨zk_44, Or.inl zw_528, by decide +kernel, by decide +kernel⟩, zw_530, _, _, _, rfl, zm_memS 19 rfl⟩
theorem zc_70_1 : zm_okO 70 1 := ⟨zw_719, zw_33, zw_34⟩
theorem zc_71_44 : zm_okS 71 87 72 3 := ⟨⟨zk_72, Or.inl zw_859, by decide +kernel, by decide +kernel⟩, zw_860, zw_8⟩
theorem zc_71_62 : zm_okV 71 91 73 1 5 := ⟨⟨zk_73, Or.inl zw_862, by decide +kernel, by decide +kernel⟩, zw_864, _, _, _, rfl, zm_memS 26 rfl⟩
theorem zc_71_83 : zm_okV 71 98 74 1 5 := ⟨⟨zk_74, Or.inl zw_866, by decide +kernel, by decide +kernel⟩, zw_868, _, _, _, rfl, zm_memS 27 rfl⟩
theorem zc_75_27 : zm_okV 75 115 76 1 5 := ⟨⟨zk_76, Or.inl zw_874, by decide +kernel, by decide +kernel⟩, zw_876, _, _, _, rfl, zm_memS 28 rfl⟩
theorem zc_75_42 : zm_okV 75 119 78 1 5 := ⟨⟨zk_78, Or.inl zw_882, by decide +kernel, by decide +kernel⟩, zw_884, _, _, _, rfl, zm_memS 30 rfl⟩
theorem zc_75_98 : zm_okV 75 123 80 1 5 := ⟨⟨zk_80, Or.inl zw_889, by decide +kernel, by decide +kernel⟩, zw_891, _, _, _, rfl, zm_memS 31 rfl⟩
theorem zc_75_159 : zm_okV 75 91 73 1 5 := ⟨⟨zk_73, Or.inl zw_862, by decide +kernel, by decide +kernel⟩, zw_864, _, _, _, rfl, zm_memS 26 rfl⟩
theorem zc_76_5 : zm_okV 76 105 77 0 5 := ⟨⟨zk_77, Or.inl zw_878, by decide +kernel, by decide +kernel⟩, zw_880, _, _, _, rfl, zm_memS 29 rfl⟩
theorem zc_76_12 : zm_okS 76 87 72 3 := ⟨⟨zk_72, Or.inl zw_859, by decide +kernel, by decide +kernel⟩, zw_860, zw_8⟩
theorem zc_76_36 : zm_okV 76 105 77 0 5 := ⟨⟨zk_77, Or.inl zw_878, by decide +kernel, by decide +kernel⟩, zw_880, _, _, _, rfl, zm_memS 29 rfl⟩
theorem zc_76_43 : zm_okS 76 87 72 3 := ⟨⟨zk_72, Or.inl zw_859, by decide +kernel, by decide +kernel⟩, zw_860, zw_8⟩
theorem zc_76_51 : zm_okV 76 105 77 0 5 := ⟨⟨zk_77, Or.inl zw_878, by decide +kernel, by decide +kernel⟩, zw_880, _, _, _, rfl, zm_memS 29 rfl⟩
theorem zc_76_66 : zm_okV 76 105 77 0 5 := ⟨⟨zk_77, Or.inl zw_878, by decide +kernel, by decide +kernel⟩, zw_880, _, _, _, rfl, zm_memS 29 rfl⟩
theorem zc_76_78 : zm_okV 76 105 77 0 5 := ⟨⟨zk_77, Or.inl zw_878, by decide +kernel, by decide +kernel⟩, zw_880, _, _, _, rfl, zm_memS 29 rfl⟩
theorem zc_76_99 : zm_okV 76 105 77 0 5 := ⟨⟨zk_77, Or.inl zw_878, by decide +kernel, by decide +kernel⟩, zw_880, _, _, _, rfl, zm_memS 29 rfl⟩
theorem zc_78_14 : zm_okV 78 105 77 0 5 := ⟨⟨zk_77, Or.inl zw_878, by decide +kernel, by decide +kernel⟩, zw_880, _, _, _, rfl, zm_memS 29 rfl⟩
theorem zc_78_19 : zm_okS 78 109 79 1 := ⟨⟨zk_79, Or.inl zw_886, by decide +kernel, by decide +kernel⟩, zw_887, zw_8⟩
theorem zc_78_45 : zm_okS 78 87 72 3 := ⟨⟨zk_72, Or.inl zw_859, by decide +kernel, by decide +kernel⟩, zw_860, zw_8⟩
theorem zc_79_5 : zm_okS 79 87 72 3 := ⟨⟨zk_72, Or.inl zw_859, by decide +kernel, by decide +kernel⟩, zw_860, zw_8⟩
theorem zc_79_16 : zm_okS 79 87 72 3 := ⟨⟨zk_72, Or.inl zw_859, by decide +kernel, by decide +kernel⟩, zw_860, zw_8⟩
theorem zc_79_27 : zm_okS 79 87 72 3 := ⟨⟨zk_72, Or.inl zw_859, by decide +kernel, by decide +kernel⟩, zw_860, zw_8⟩
theorem zc_81_7 : zm_okV 81 119 78 1 5 := ⟨⟨zk_78, Or.inl zw_882, by decide +kernel, by decide +kernel⟩, zw_884, _, _, _, rfl, zm_memS 30 rfl⟩
theorem zc_81_25 : zm_okV 81 91 73 1 5 := ⟨⟨zk_73, Or.inl zw_862, by decide +kernel, by decide +kernel⟩, zw_864, _, _, _, rfl, zm_memS 26 rfl⟩
theorem zc_81_39 : zm_okV 81 229 82 0 5 := ⟨⟨zk_82, Or.inl zw_897, by decide +kernel, by decide +kernel⟩, zw_899, _, _, _, rfl, zm_memS 32 rfl⟩
theorem zc_81_44 : zm_okV 81 123 80 1 5 := ⟨⟨zk_80, Or.inl zw_889, by decide +kernel, by decide +kernel⟩, zw_891, _, _, _, rfl, zm_memS 31 rfl⟩
theorem zc_81_66 : zm_okV 81 232 84 2 5 := ⟨⟨zk_84, Or.inl zw_905, by decide +kernel, by decide +kernel⟩, zw_907, _, _, _, rfl, zm_memS 34 rfl⟩
theorem zc_81_70 : zm_okV 81 235 100 0 5 := ⟨⟨zk_100, Or.inl zw_969, by decide +kernel, by decide +kernel⟩, zw_971, _, _, _, rfl, zm_memS 50 rfl⟩
theorem zc_82_29 : zm_okV 82 126 83 1 5 := ⟨⟨zk_83, Or.inl zw_901, by decide +kernel, by decide +kernel⟩, zw_903, _, _, _, rfl, zm_memS 33 rfl⟩
theorem zc_83_15 : zm_okS 83 109 79 1 := ⟨⟨zk_79, Or.inl zw_886, by decide +kernel, by decide +kernel⟩, zw_887, zw_8⟩
theorem zc_84_8 : zm_okV 84 171 85 2 5 := ⟨⟨zk_85, Or.inl zw_909, by decide +kernel, by decide +kernel⟩, zw_911, _, _, _, rfl, zm_memS 35 rfl⟩
theorem zc_84_26 : zm_okV 84 213 86 0 5 := ⟨⟨zk_86, Or.inl zw_913, by decide +kernel, by decide +kernel⟩, zw_915, _, _, _, rfl, zm_memS 36 rfl⟩
theorem zc_86_30 : zm_okV 86 204 87 0 5 := ⟨⟨zk_87, Or.inl zw_917, by decide +kernel, by decide +kernel⟩, zw_919, _, _, _, rfl, zm_memS 37 rfl⟩
theorem zc_86_71 : zm_okV 86 207 90 2 5 := ⟨⟨zk_90, Or.inl zw_929, by decide +kernel, by decide +kernel⟩, zw_931, _, _, _, rfl, zm_memS 40 rfl⟩
theorem zc_86_82 : zm_okS 86 87 72 3 := ⟨⟨zk_72, Or.inl zw_859, by decide +kernel, by decide +kernel⟩, zw_860, zw_8⟩
theorem zc_86_95 : zm_okV 86 157 89 3 5 := ⟨⟨zk_89, Or.inl zw_925, by decide +kernel, by decide +kernel⟩, zw_927, _, _, _, rfl, zm_memS 39 rfl⟩
theorem zc_86_111 : zm_okV 86 157 89 3 5 := ⟨⟨zk_89, Or.inl zw_925, by decide +kernel, by decide +kernel⟩, zw_927, _, _, _, rfl, zm_memS 39 rfl⟩
theorem zc_86_122 : zm_okS 86 87 72 3 := ⟨⟨zk_72, Or.inl zw_859, by decide +kernel, by decide +kernel⟩, zw_860, zw_8⟩
theorem zc_86_137 : zm_okV 86 153 93 2 5 := ⟨⟨zk_93, Or.inl zw_941, by decide +kernel, by decide +kernel⟩, zw_943, _, _, _, rfl, zm_memS 43 rfl⟩
theorem zc_86_140 : zm_okV 86 193 96 1 5 := ⟨⟨zk_96, Or.inl zw_953, by decide +kernel, by decide +kernel⟩, zw_955, _, _, _, rfl, zm_memS 46 rfl⟩
theorem zc_86_151 : zm_okS 86 87 72 3 := ⟨⟨zk_72, Or.inl zw_859, by decide +kernel, by decide +kernel⟩, zw_860, zw_8⟩
theorem zc_86_162 : zm_okV 86 210 99 1 5 := ⟨⟨zk_99, Or.inl zw_965, by decide +kernel, by decide +kernel⟩, zw_967, _, _, _, rfl, zm_memS 49 rfl⟩
theorem zc_86_184 : zm_okV 86 181 92 2 5 := ⟨⟨zk_92, Or.inl zw_937, by decide +kernel, by decide +kernel⟩, zw_939, _, _, _, rfl, zm_memS 42 rfl⟩
theorem zc_86_198 : zm_okV 86 126 83 1 5 := ⟨⟨zk_83, Or.inl zw_901, by decide +kernel, by decide +kernel⟩, zw_903, _, _, _, rfl, zm_memS 33 rfl⟩
theorem zc_86_207 : zm_okV 86 181 92 2 5 := ⟨⟨zk_92, Or.inl zw_937, by decide +kernel, by decide +kernel⟩, zw_939, _, _, _, rfl, zm_memS 42 rfl⟩
theorem zc_86_210 : zm_okV 86 157 89 3 5 := ⟨⟨zk_89, Or.inl zw_925, by decide +kernel, by decide +kernel⟩, zw_927, _, _, _, rfl, zm_memS 39 rfl⟩
theorem zc_86_233 : zm_okV 86 171 85 2 5 := ⟨⟨zk_85, Or.inl zw_909, by decide +kernel, by decide +kernel⟩, zw_911, _, _, _, rfl, zm_memS 35 rfl⟩
theorem zc_87_49 : zm_okV 87 164 88 1 5 := ⟨⟨zk_88, Or.inl zw_921, by decide +kernel, by decide +kernel⟩, zw_923, _, _, _, rfl, zm_memS 38 rfl⟩
theorem zc_88_19 : zm_okV 88 157 89 3 5 := ⟨⟨zk_89, Or.inl zw_925, by decide +kernel, by decide +kernel⟩, zw_927, _, _, _, rfl, zm_memS 39 rfl⟩
theorem zc_90_15 : zm_okV 90 190 91 1 5 := ⟨⟨zk_91, Or.inl zw_933, by decide +kernel, by decide +kernel⟩, zw_935, _, _, _, rfl, zm_memS 41 rfl⟩
theorem zc_90_67 : zm_okV 90 157 89 3 5 := ⟨⟨zk_89, Or.inl zw_925, by decide +kernel, by decide +kernel⟩, zw_927, _, _, _, rfl, zm_memS 39 rfl⟩
theorem zc_90_131 : zm_okV 90 193 96 1 5 := ⟨⟨zk_96, Or.inl zw_953, by decide +kernel, by decide +kernel⟩, zw_955, _, _, _, rfl, zm_memS 46 rfl⟩
theorem zc_90_138 : zm_okV 90 196 97 0 5 := ⟨⟨zk_97, Or.inl zw_957, by decide +kernel, by decide +kernel⟩, zw_959, _, _, _, rfl, zm_memS 47 rfl⟩
theorem zc_90_155 : zm_okV 90 126 83 1 5 := ⟨⟨zk_83, Or.inl zw_901, by decide +kernel, by decide +kernel⟩, zw_903, _, _, _, rfl, zm_memS 33 rfl⟩
theorem zc_90_183 : zm_okV 90 126 83 1 5 := ⟨⟨zk_83, Or.inl zw_901, by decide +kernel, by decide +kernel⟩, zw_903, _, _, _, rfl, zm_memS 33 rfl⟩
theorem zc_90_192 : zm_okV 90 171 85 2 5 := ⟨⟨zk_85, Or.inl zw_909, by decide +kernel, by decide +kernel⟩, zw_911, _, _, _, rfl, zm_memS 35 rfl⟩
theorem zc_90_230 : zm_okV 90 126 83 1 5 := ⟨⟨zk_83, Or.inl zw_901, by decide +kernel, by decide +kernel⟩, zw_903, _, _, _, rfl, zm_memS 33 rfl⟩
theorem zc_90_239 : zm_okV 90 171 85 2 5 := ⟨⟨zk_85, Or.inl zw_909, by decide +kernel, by decide +kernel⟩, zw_911, _, _, _, rfl, zm_memS 35 rfl⟩
theorem zc_90_257 : zm_okV 90 200 98 3 5 := ⟨⟨zk_98, Or.inl zw_961, by decide +kernel, by decide +kernel⟩, zw_963, _, _, _, rfl, zm_memS 48 rfl⟩
theorem zc_90_274 : zm_okV 90 157 89 3 5 := ⟨⟨zk_89, Or.inl zw_925, by decide +kernel, by decide +kernel⟩, zw_927, _, _, _, rfl, zm_memS 39 rfl⟩
theorem zc_91_39 : zm_okV 91 126 83 1 5 := ⟨⟨zk_83, Or.inl zw_901, by decide +kernel, by decide +kernel⟩, zw_903, _, _, _, rfl, zm_memS 33 rfl⟩
theorem zc_91_48 : zm_okV 91 181 92 2 5 := ⟨⟨zk_92, Or.inl zw_937, by decide +kernel, by decide +kernel⟩, zw_939, _, _, _, rfl, zm_memS 42 rfl⟩
theorem zc_91_86 : zm_okV 91 184 94 1 5 := ⟨⟨zk_94, Or.inl zw_945, by decide +kernel, by decide +kernel⟩, zw_947, _, _, _, rfl, zm_memS 44 rfl⟩
theorem zc_91_124 : zm_okV 91 157 89 3 5 := ⟨⟨zk_89, Or.inl zw_925, by decide +kernel, by decide +kernel⟩, zw_927, _, _, _, rfl, zm_memS 39 rfl⟩
theorem zc_91_136 : zm_okV 91 187 95 3 5 := ⟨⟨zk_95, Or.inl zw_949, by decide +kernel, by decide +kernel⟩, zw_951, _, _, _, rfl, zm_memS 45 rfl⟩
theorem zc_92_10 : zm_okS 92 87 72 3 := ⟨⟨zk_72, Or.inl zw_859, by decide +kernel, by decide +kernel⟩, zw_860, zw_8⟩
theorem zc_92_24 : zm_okV 92 153 93 2 5 := ⟨⟨zk_93, Or.inl zw_941, by decide +kernel, by decide +kernel⟩, zw_943, _, _, _, rfl, zm_memS 43 rfl⟩
theorem zc_95_180 : zm_okV 95 171 85 2 5 := ⟨⟨zk_85, Or.inl zw_909, by decide +kernel, by decide +kernel⟩, zw_911, _, _, _, rfl, zm_memS 35 rfl⟩
theorem zc_96_22 : zm_okV 96 164 88 1 5 := ⟨⟨zk_88, Or.inl zw_921, by decide +kernel, by decide +kernel⟩, zw_923, _, _, _, rfl, zm_memS 38 rfl⟩
theorem zc_96_92 : zm_okV 96 171 85 2 5 := ⟨⟨zk_85, Or.inl zw_909, by decide +kernel, by decide +kernel⟩, zw_911, _, _, _, rfl, zm_memS 35 rfl⟩
theorem zc_98_18 : zm_okV 98 98 74 1 5 := ⟨⟨zk_74, Or.inl zw_866, by decide +kernel, by decide +kernel⟩, zw_868, _, _, _, rfl, zm_memS 27 rfl⟩
theorem zc_99_30 : zm_okV 99 187 95 3 5 := ⟨⟨zk_95, Or.inl zw_949, by decide +kernel, by decide +kernel⟩, zw_951, _, _, _, rfl, zm_memS 45 rfl⟩
theorem zc_99_40 : zm_okV 99 157 89 3 5 := ⟨⟨zk_89, Or.inl zw_925, by decide +kernel, by decide +kernel⟩, zw_927, _, _, _, rfl, zm_memS 39 rfl⟩
theorem zc_102_2 : zm_okV 102 238 103 1 5 := ⟨⟨zk_103, Or.inl zw_981, by decide +kernel, by decide +kernel⟩, zw_983, _, _, _, rfl, zm_memS 51 rfl⟩
theorem zc_103_112 : zm_okV 103 232 84 2 5 := ⟨⟨zk_84, Or.inl zw_905, by decide +kernel, by decide +kernel⟩, zw_907, _, _, _, rfl, zm_memS 34 rfl⟩
theorem zc_104_2 : zm_okV 104 238 103 1 5 := ⟨⟨zk_103, Or.inl zw_981, by decide +kernel, by decide +kernel⟩, zw_983, _, _, _, rfl, zm_memS 51 rfl⟩
theorem zc_104_9 : zm_okV 104 235 100 0 5 := ⟨⟨zk_100, Or.inl zw_969, by decide +kernel, by decide +kernel⟩, zw_971, _, _, _, rfl, zm_memS 50 rfl⟩
theorem zc_105_4 : zm_okS 105 87 72 3 := ⟨⟨zk_72, Or.inl zw_859, by decide +kernel, by decide +kernel⟩, zw_860, zw_8⟩
theorem zc_105_7 : zm_okV 105 91 73 1 5 := ⟨⟨zk_73, Or.inl zw_862, by decide +kernel, by decide +kernel⟩, zw_864, _, _, _, rfl, zm_memS 26 rfl⟩
theorem zc_108_5 : zm_okS 108 118 114 2 := ⟨⟨zk_114, Or.inl zw_502, by decide +kernel, by decide +kernel⟩, zw_503, zw_20⟩
theorem zc_108_11 : zm_okV 108 123 109 1 4 := ⟨⟨zk_109, Or.inl zw_508, by decide +kernel, by decide +kernel⟩, zw_509, _, _, _, rfl, zw_510⟩
theorem zc_110_20 : zm_okV 110 131 111 3 4 := ⟨⟨zk_111, Or.inl zw_442, by decide +kernel, by decide +kernel⟩, zw_444, _, _, _, rfl, zm_memS 14 rfl⟩
theorem zc_111_7 : zm_okV 111 129 112 0 4 := ⟨⟨zk_112, Or.inl zw_446, by decide +kernel, by decide +kernel⟩, zw_448, _, _, _, rfl, zm_memS 15 rfl⟩
theorem zc_112_7 : zm_okV 112 69 113 1 4 := ⟨⟨zk_113, Or.inl zw_450, by decide +kernel, by decide +kernel⟩, zw_452, _, _, _, rfl, zm_memS 16 rfl⟩
theorem zc_113_27 : zm_okS 113 73 116 3 := ⟨⟨zk_116, Or.inl zw_454, by decide +kernel, by decide +kernel⟩, zw_455, zw_17⟩
theorem zc_113_37 : zm_okS 113 66 117 2 := ⟨⟨zk_117, Or.inl zw_462, by decide +kernel, by decide +kernel⟩, zw_463, zw_18⟩
theorem zc_114_3 : zm_okS 114 105 115 3 := ⟨⟨zk_115, Or.inl zw_505, by decide +kernel, by decide +kernel⟩, zw_506, zw_21⟩
theorem zc_117_6 : zm_okS 117 300 118 3 := ⟨⟨zk_118, Or.inl zw_484, by decide +kernel, by decide +kernel⟩, zw_485, zw_18⟩
theorem zy_0 : ∀ w ∈ zm_ownX "java/lang/IllegalArgumentException" 7 prog_15_method_2_code, w ∈ zm_tb ∧ zm_gw w = true := by decide +kernel
theorem zy_1 : ∀ w ∈ zm_ownX "java/lang/IllegalStateException" 7 prog_16_method_2_code, w ∈ zm_tb ∧ zm_gw w = true := by decide +kernel
theorem zy_2 : ∀ w ∈ zm_ownX "java/util/NoSuchElementException" 13 prog_30_method_4_code, w ∈ zm_tb ∧ zm_gw w = true := by decide +kernel
theorem zy_3 : ∀ w ∈ zm_ownX "java/lang/UnsupportedOperationException" 7 prog_23_method_2_code, w ∈ zm_tb ∧ zm_gw w = true := by decide +kernel
theorem zy_4 : ∀ w ∈ zm_ownX "java/lang/ArithmeticException" 7 prog_12_method_2_code, w ∈ zm_tb ∧ zm_gw w = true := by decide +kernel
theorem zx_13_38 : zm_okx 13 38 0 := ⟨26, 28, 30, 7, _, _, prog_15_method_2_code, 2, by decide +kernel, by decide +kernel, by decide +kernel, by decide +kernel, by decide +kernel, by decide +kernel, Or.inl ⟨by decide +kernel, rfl⟩, by decide +kernel, by decide +kernel, rfl, zw_205, zw_206, zw_12, zw_248, by decide +kernel, zm_out0 rfl, zw_249, zy_0⟩
theorem zx_13_78 : zm_okx 13 78 1 := ⟨36, 38, 40, 7, _, _, prog_16_method_2_code, 2, by decide +kernel, by decide +kernel, by decide +kernel, by decide +kernel, by decide +kernel, by decide +kernel, Or.inl ⟨by decide +kernel, rfl⟩, by decide +kernel, by decide +kernel, rfl, zw_275, zw_276, zw_13, zw_284, by decide +kernel, zm_out0 rfl, zw_285, zy_1⟩
theorem zx_20_12 : zm_okx 20 12 0 := ⟨26, 109, 30, 7, _, _, prog_15_method_2_code, 2, by decide +kernel, by decide +kernel, by decide +kernel, by decide +kernel, by decide +kernel, by decide +kernel, Or.inl ⟨by decide +kernel, rfl⟩, by decide +kernel, by decide +kernel, rfl, zw_205, zw_206, zw_12, zw_313, by decide +kernel, zm_out0 rfl, zw_249, zy_0⟩
theorem zx_37_6 : zm_okx 37 6 1 := ⟨128, 130, 132, 7, _, _, prog_16_method_2_code, 2, by decide +kernel, by decide +kernel, by decide +kernel, by decide +kernel, by decide +kernel, by decide +kernel, Or.inl ⟨by decide +kernel, rfl⟩, by decide +kernel, by decide +kernel, rfl, zw_420, zw_276, zw_13, zw_421, by decide +kernel, zm_out0 rfl, zw_422, zy_1⟩
theorem zx_40_29 : zm_okx 40 29 1 := ⟨128, 265, 132, 7, _, _, prog_16_method_2_code, 3, by decide +kernel, by decide +kernel, by decide +kernel, by decide +kernel, by decide +kernel, by decide +kernel, Or.inr ⟨by decide +kernel, rfl⟩, by decide +kernel, by decide +kernel, rfl, zw_420, zw_276, zw_13, zw_515, by decide +kernel, zm_out0 rfl, zw_422, zy_1⟩
theorem zx_42_7 : zm_okx 42 7 1 := ⟨128, 267, 132, 7, _, _, prog_16_method_2_code, 3, by decide +kernel, by decide +kernel, by decide +kernel, by decide +kernel, by decide +kernel, by decide +kernel, Or.inr ⟨by decide +kernel, rfl⟩, by decide +kernel, by decide +kernel, rfl, zw_420, zw_276, zw_13, zw_523, by decide +kernel, zm_out0 rfl, zw_422, zy_1⟩
theorem zx_44_11 : zm_okx 44 11 2 := ⟨70, 257, 74, 13, _, _, prog_30_method_4_code, 3, by decide +kernel, by decide +kernel, by decide +kernel, by decide +kernel, by decide +kernel, by decide +kernel, Or.inr ⟨by decide +kernel, rfl⟩, by decide +kernel, by decide +kernel, rfl, zw_532, zw_533, zw_22, zw_541, by decide +kernel, zm_out0 rfl, zw_542, zy_2⟩
theorem zx_45_10 : zm_okx 45 10 1 := ⟨128, 219, 132, 7, _, _, prog_16_method_2_code, 2, by decide +kernel, by decide +kernel, by decide +kernel, by decide +kernel, by decide +kernel, by decide +kernel, Or.inl ⟨by decide +kernel, rfl⟩, by decide +kernel, by decide +kernel, rfl, zw_420, zw_276, zw_13, zw_552, by decide +kernel, zm_out0 rfl, zw_422, zy_1⟩
theorem zx_51_23 : zm_okx 51 23 3 := ⟨198, 200, 202, 7, _, _, prog_23_method_2_code, 2, by decide +kernel, by decide +kernel, by decide +kernel, by decide +kernel, by decide +kernel, by decide +kernel, Or.inl ⟨by decide +kernel, rfl⟩, by decide +kernel, by decide +kernel, rfl, zw_596, zw_597, zw_24, zw_605, by decide +kernel, zm_out0 rfl, zw_606, zy_3⟩
theorem zx_54_8 : zm_okx 54 8 2 := ⟨70, 271, 74, 13, _, _, prog_30_method_4_code, 3, by decide +kernel, by decide +kernel, by decide +kernel, by decide +kernel, by decide +kernel, by decide +kernel, Or.inr ⟨by decide +kernel, rfl⟩, by decide +kernel, by decide +kernel, rfl, zw_532, zw_533, zw_22, zw_638, by decide +kernel, zm_out0 rfl, zw_542, zy_2⟩
theorem zx_54_27 : zm_okx 54 27 3 := ⟨198, 273, 202, 7, _, _, prog_23_method_2_code, 3, by decide +kernel, by decide +kernel, by decide +kernel, by decide +kernel, by decide +kernel, by decide +kernel, Or.inr ⟨by decide +kernel, rfl⟩, by decide +kernel, by decide +kernel, rfl, zw_596, zw_597, zw_24, zw_639, by decide +kernel, zm_out0 rfl, zw_606, zy_3⟩
theorem zx_55_16 : zm_okx 55 16 3 := ⟨198, 275, 202, 7, _, _, prog_23_method_2_code, 3, by decide +kernel, by decide +kernel, by decide +kernel, by decide +kernel, by decide +kernel, by decide +kernel, Or.inr ⟨by decide +kernel, rfl⟩, by decide +kernel, by decide +kernel, rfl, zw_596, zw_597, zw_24, zw_643, by decide +kernel, zm_out0 rfl, zw_606, zy_3⟩
theorem zx_57_7 : zm_okx 57 7 3 := ⟨198, 269, 202, 7, _, _, prog_23_method_2_code, 3, by decide +kernel, by decide +kernel, by decide +kernel, by decide +kernel, by decide +kernel, by decide +kernel, Or.inr ⟨by decide +kernel, rfl⟩, by decide +kernel, by decide +kernel, rfl, zw_596, zw_597, zw_24, zw_651, by decide +kernel, zm_out0 rfl, zw_606, zy_3⟩
theorem zx_60_4 : zm_okx 60 4 4 := ⟨277, 279, 281, 7, _, _, prog_12_method_2_code, 3, by decide +kernel, by decide +kernel, by decide +kernel, by decide +kernel, by decide +kernel, by decide +kernel, Or.inr ⟨by decide +kernel, rfl⟩, by decide +kernel, by decide +kernel, rfl, zw_662, zw_663, zw_26, zw_671, by decide +kernel, zm_out0 rfl, zw_672, zy_4⟩
theorem zx_62_7 : zm_okx 62 7 2 := ⟨70, 72, 74, 13, _, _, prog_30_method_4_code, 2, by decide +kernel, by decide +kernel, by decide +kernel, by decide +kernel, by decide +kernel, by decide +kernel, Or.inl ⟨by decide +kernel, rfl⟩, by decide +kernel, by decide +kernel, rfl, zw_532, zw_533, zw_22, zw_685, by decide +kernel, zm_out0 rfl, zw_542, zy_2⟩
theorem zx_65_14 : zm_okx 65 14 2 := ⟨70, 72, 74, 13, _, _, prog_30_method_4_code, 2, by decide +kernel, by decide +kernel, by decide +kernel, by decide +kernel, by decide +kernel, by decide +kernel, Or.inl ⟨by decide +kernel, rfl⟩, by decide +kernel, by decide +kernel, rfl, zw_532, zw_533, zw_22, zw_685, by decide +kernel, zm_out0 rfl, zw_542, zy_2⟩
theorem zx_69_10 : zm_okx 69 10 0 := ⟨96, 98, 100, 7, _, _, prog_15_method_2_code, 2, by decide +kernel, by decide +kernel, by decide +kernel, by decide +kernel, by decide +kernel, by decide +kernel, Or.inl ⟨by decide +kernel, rfl⟩, by decide +kernel, by decide +kernel, rfl, zw_711, zw_206, zw_12, zw_712, by decide +kernel, zm_out0 rfl, zw_713, zy_0⟩
theorem zt_11_0 : zm_cat 11 4 0 12 := ⟨_, tableOf [], ⟨0, 9, 12, 13⟩, tableOf [(0, 9, 16, 15)], rfl, rfl, fun _ h => absurd h List.not_mem_nil, rfl, ⟨by decide, _, zw_192, zw_207⟩, rfl⟩
theorem zt_11_1 : zm_cat 11 4 1 16 := ⟨_, tableOf [(0, 9, 12, 13)], ⟨0, 9, 16, 15⟩, tableOf [], rfl, rfl, List.forall_mem_cons.mpr ⟨Or.inr ⟨by decide, _, zw_192, zm_memE 4 rfl⟩, fun _ h => absurd h List.not_mem_nil⟩, rfl, ⟨by decide, _, zw_193, zw_277⟩, rfl⟩
theorem zt_15_0 : zm_cat 15 3 0 11 := ⟨_, tableOf [], ⟨0, 8, 11, 13⟩, tableOf [], rfl, rfl, fun _ h => absurd h List.not_mem_nil, rfl, ⟨by decide, _, zw_192, zw_207⟩, rfl⟩
theorem zt_33_0 : zm_cat 33 3 0 11 := ⟨_, tableOf [], ⟨0, 8, 11, 13⟩, tableOf [(0, 8, 14, 24), (0, 8, 17, 26), (0, 8, 20, 15), (0, 8, 23, 28)], rfl, rfl, fun _ h => absurd h List.not_mem_nil, rfl, ⟨by decide, _, zw_192, zw_207⟩, rfl⟩
theorem zt_33_2 : zm_cat 33 3 2 14 := ⟨_, tableOf [(0, 8, 11, 13)], ⟨0, 8, 14, 24⟩, tableOf [(0, 8, 17, 26), (0, 8, 20, 15), (0, 8, 23, 28)], rfl, rfl, List.forall_mem_cons.mpr ⟨Or.inr ⟨by decide, _, zw_192, zm_memE 8 rfl⟩, fun _ h => absurd h List.not_mem_nil⟩, rfl, ⟨by decide, _, zw_401, zw_534⟩, rfl⟩
theorem zt_33_4 : zm_cat 33 3 4 17 := ⟨_, tableOf [(0, 8, 11, 13), (0, 8, 14, 24)], ⟨0, 8, 17, 26⟩, tableOf [(0, 8, 20, 15), (0, 8, 23, 28)], rfl, rfl, List.forall_mem_cons.mpr ⟨Or.inr ⟨by decide, _, zw_192, zm_memE 16 rfl⟩, List.forall_mem_cons.mpr ⟨Or.inr ⟨by decide, _, zw_401, zm_memE 18 rfl⟩, fun _ h => absurd h List.not_mem_nil⟩⟩, rfl, ⟨by decide, _, zw_402, zw_664⟩, rfl⟩
theorem zt_33_1 : zm_cat 33 3 1 20 := ⟨_, tableOf [(0, 8, 11, 13), (0, 8, 14, 24), (0, 8, 17, 26)], ⟨0, 8, 20, 15⟩, tableOf [(0, 8, 23, 28)], rfl, rfl, List.forall_mem_cons.mpr ⟨Or.inr ⟨by decide, _, zw_192, zm_memE 4 rfl⟩, List.forall_mem_cons.mpr ⟨Or.inr ⟨by decide, _, zw_401, zm_memE 5 rfl⟩, List.forall_mem_cons.mpr ⟨Or.inr ⟨by decide, _, zw_402, zm_memE 7 rfl⟩, fun _ h => absurd h List.not_mem_nil⟩⟩⟩, rfl, ⟨by decide, _, zw_193, zw_277⟩, rfl⟩
theorem zt_33_3 : zm_cat 33 3 3 23 := ⟨_, tableOf [(0, 8, 11, 13), (0, 8, 14, 24), (0, 8, 17, 26), (0, 8, 20, 15)], ⟨0, 8, 23, 28⟩, tableOf [], rfl, rfl, List.forall_mem_cons.mpr ⟨Or.inr ⟨by decide, _, zw_192, zm_memE 12 rfl⟩, List.forall_mem_cons.mpr ⟨Or.inr ⟨by decide, _, zw_401, zm_memE 14 rfl⟩, List.forall_mem_cons.mpr ⟨Or.inr ⟨by decide, _, zw_402, zm_memE 15 rfl⟩, List.forall_mem_cons.mpr ⟨Or.inr ⟨by decide, _, zw_193, zm_memE 13 rfl⟩, fun _ h => absurd h List.not_mem_nil⟩⟩⟩⟩, rfl, ⟨by decide, _, zw_403, zw_598⟩, rfl⟩
theorem zt_61_2 : zm_cat 61 3 2 11 := ⟨_, tableOf [], ⟨0, 8, 11, 24⟩, tableOf [(0, 8, 14, 28)], rfl, rfl, fun _ h => absurd h List.not_mem_nil, rfl, ⟨by decide, _, zw_401, zw_534⟩, rfl⟩
theorem zt_61_3 : zm_cat 61 3 3 14 := ⟨_, tableOf [(0, 8, 11, 24)], ⟨0, 8, 14, 28⟩, tableOf [], rfl, rfl, List.forall_mem_cons.mpr ⟨Or.inr ⟨by decide, _, zw_401, zm_memE 14 rfl⟩, fun _ h => absurd h List.not_mem_nil⟩, rfl, ⟨by decide, _, zw_403, zw_598⟩, rfl⟩
theorem zt_63_2 : zm_cat 63 3 2 11 := ⟨_, tableOf [], ⟨0, 8, 11, 24⟩, tableOf [(0, 8, 14, 26), (0, 8, 17, 15), (0, 8, 20, 28)], rfl, rfl, fun _ h => absurd h List.not_mem_nil, rfl, ⟨by decide, _, zw_401, zw_534⟩, rfl⟩
theorem zt_63_4 : zm_cat 63 3 4 14 := ⟨_, tableOf [(0, 8, 11, 24)], ⟨0, 8, 14, 26⟩, tableOf [(0, 8, 17, 15), (0, 8, 20, 28)], rfl, rfl, List.forall_mem_cons.mpr ⟨Or.inr ⟨by decide, _, zw_401, zm_memE 18 rfl⟩, fun _ h => absurd h List.not_mem_nil⟩, rfl, ⟨by decide, _, zw_402, zw_664⟩, rfl⟩
theorem zt_63_1 : zm_cat 63 3 1 17 := ⟨_, tableOf [(0, 8, 11, 24), (0, 8, 14, 26)], ⟨0, 8, 17, 15⟩, tableOf [(0, 8, 20, 28)], rfl, rfl, List.forall_mem_cons.mpr ⟨Or.inr ⟨by decide, _, zw_401, zm_memE 5 rfl⟩, List.forall_mem_cons.mpr ⟨Or.inr ⟨by decide, _, zw_402, zm_memE 7 rfl⟩, fun _ h => absurd h List.not_mem_nil⟩⟩, rfl, ⟨by decide, _, zw_193, zw_277⟩, rfl⟩
theorem zt_63_3 : zm_cat 63 3 3 20 := ⟨_, tableOf [(0, 8, 11, 24), (0, 8, 14, 26), (0, 8, 17, 15)], ⟨0, 8, 20, 28⟩, tableOf [], rfl, rfl, List.forall_mem_cons.mpr ⟨Or.inr ⟨by decide, _, zw_401, zm_memE 14 rfl⟩, List.forall_mem_cons.mpr ⟨Or.inr ⟨by decide, _, zw_402, zm_memE 15 rfl⟩, List.forall_mem_cons.mpr ⟨Or.inr ⟨by decide, _, zw_193, zm_memE 13 rfl⟩, fun _ h => absurd h List.not_mem_nil⟩⟩⟩, rfl, ⟨by decide, _, zw_403, zw_598⟩, rfl⟩
theorem zt_66_2 : zm_cat 66 3 2 11 := ⟨_, tableOf [], ⟨0, 8, 11, 24⟩, tableOf [(0, 8, 14, 26), (0, 8, 17, 15), (0, 8, 20, 28)], rfl, rfl, fun _ h => absurd h List.not_mem_nil, rfl, ⟨by decide, _, zw_401, zw_534⟩, rfl⟩
theorem zt_66_4 : zm_cat 66 3 4 14 := ⟨_, tableOf [(0, 8, 11, 24)], ⟨0, 8, 14, 26⟩, tableOf [(0, 8, 17, 15), (0, 8, 20, 28)], rfl, rfl, List.forall_mem_cons.mpr ⟨Or.inr ⟨by decide, _, zw_401, zm_memE 18 rfl⟩, fun _ h => absurd h List.not_mem_nil⟩, rfl, ⟨by decide, _, zw_402, zw_664⟩, rfl⟩
theorem zt_66_1 : zm_cat 66 3 1 17 := ⟨_, tableOf [(0, 8, 11, 24), (0, 8, 14, 26)], ⟨0, 8, 17, 15⟩, tableOf [(0, 8, 20, 28)], rfl, rfl, List.forall_mem_cons.mpr ⟨Or.inr ⟨by decide, _, zw_401, zm_memE 5 rfl⟩, List.forall_mem_cons.mpr ⟨Or.inr ⟨by decide, _, zw_402, zm_memE 7 rfl⟩, fun _ h => absurd h List.not_mem_nil⟩⟩, rfl, ⟨by decide, _, zw_193, zw_277⟩, rfl⟩
theorem zt_66_3 : zm_cat 66 3 3 20 := ⟨_, tableOf [(0, 8, 11, 24), (0, 8, 14, 26), (0, 8, 17, 15)], ⟨0, 8, 20, 28⟩, tableOf [], rfl, rfl, List.forall_mem_cons.mpr ⟨Or.inr ⟨by decide, _, zw_401, zm_memE 14 rfl⟩, List.forall_mem_cons.mpr ⟨Or.inr ⟨by decide, _, zw_402, zm_memE 15 rfl⟩, List.forall_mem_cons.mpr ⟨Or.inr ⟨by decide, _, zw_193, zm_memE 13 rfl⟩, fun _ h => absurd h List.not_mem_nil⟩⟩⟩, rfl, ⟨by decide, _, zw_403, zw_598⟩, rfl⟩
theorem zt_68_0 : zm_cat 68 2 0 8 := ⟨_, tableOf [], ⟨0, 5, 8, 13⟩, tableOf [(0, 5, 11, 24)], rfl, rfl, fun _ h => absurd h List.not_mem_nil, rfl, ⟨by decide, _, zw_192, zw_207⟩, rfl⟩
theorem zt_68_2 : zm_cat 68 2 2 11 := ⟨_, tableOf [(0, 5, 8, 13)], ⟨0, 5, 11, 24⟩, tableOf [], rfl, rfl, List.forall_mem_cons.mpr ⟨Or.inr ⟨by decide, _, zw_192, zm_memE 8 rfl⟩, fun _ h => absurd h List.not_mem_nil⟩, rfl, ⟨by decide, _, zw_401, zw_534⟩, rfl⟩
theorem zj_m37_22 : (Jvm.Cond.methodLink "NeedMachine" (133 : Nat) ({ cls := "java/lang/Math", name := "max", desc := "(II)I" } : Jvm.MethodName)) ∈ zm_tb := zw_423
theorem zj_m113_49 : (Jvm.Cond.methodLink "java/util/ArrayList" (79 : Nat) ({ cls := "java/lang/Math", name := "max", desc := "(II)I" } : Jvm.MethodName)) ∈ zm_tb := zw_496
theorem zj_m116_3 : (Jvm.Cond.methodLink "jdk/internal/util/ArraysSupport" (194 : Nat) ({ cls := "java/lang/Math", name := "max", desc := "(II)I" } : Jvm.MethodName)) ∈ zm_tb := zw_457
theorem zj_m118_32 : (Jvm.Cond.methodLink "java/util/Arrays" (304 : Nat) ({ cls := "java/lang/Math", name := "min", desc := "(II)I" } : Jvm.MethodName)) ∈ zm_tb := zw_490
theorem zj_mxS : (Jvm.Cond.static ({ cls := "java/lang/Math", name := "max", desc := "(II)I" } : Jvm.MethodName)) ∈ zm_tb := zw_424
theorem zj_mxC : (Jvm.Cond.code ({ cls := "java/lang/Math", name := "max", desc := "(II)I" } : Jvm.MethodName) prog_18_method_65_code (2 : Nat) (Option.some Jvm.ClassFile.FieldType.int)) ∈ zm_tb := zw_425
theorem zj_mnS : (Jvm.Cond.static ({ cls := "java/lang/Math", name := "min", desc := "(II)I" } : Jvm.MethodName)) ∈ zm_tb := zw_491
theorem zj_mnC : (Jvm.Cond.code ({ cls := "java/lang/Math", name := "min", desc := "(II)I" } : Jvm.MethodName) prog_18_method_69_code (2 : Nat) (Option.some Jvm.ClassFile.FieldType.int)) ∈ zm_tb := zw_492
theorem zj_mI : (Jvm.Cond.initialized "java/lang/Math") ∈ zm_tb := zw_16
theorem zj_getL : (Jvm.Cond.methodLink "java/util/Arrays" (86 : Nat) ({ cls := "java/lang/Object", name := "getClass", desc := "()Ljava/lang/Class;" } : Jvm.MethodName)) ∈ zm_tb := zw_465
theorem zj_getI : (Jvm.Cond.instanceMethod ({ cls := "java/lang/Object", name := "getClass", desc := "()Ljava/lang/Class;" } : Jvm.MethodName)) ∈ zm_tb := zw_466
theorem zj_getN : (Jvm.Cond.native ({ cls := "java/lang/Object", name := "getClass", desc := "()Ljava/lang/Class;" } : Jvm.MethodName)) ∈ zm_tb := zw_483
theorem zj_getS : (Jvm.Cond.selects "[Ljava/lang/Object;" ({ cls := "java/lang/Object", name := "getClass", desc := "()Ljava/lang/Class;" } : Jvm.MethodName) ({ cls := "java/lang/Object", name := "getClass", desc := "()Ljava/lang/Class;" } : Jvm.MethodName)) ∈ zm_tb := zw_1004
theorem zj_getD : (Jvm.Cond.declares ({ cls := "java/lang/Object", name := "getClass", desc := "()Ljava/lang/Class;" } : Jvm.MethodName)) ∈ zm_tb := zw_1005
theorem zj_mirL : (Jvm.Cond.classLink "java/util/Arrays" (110 : Nat) "[Ljava/lang/Object;") ∈ zm_tb := zw_487
theorem zj_cpL : (Jvm.Cond.methodLink "java/util/Arrays" (150 : Nat) ({ cls := "java/lang/System", name := "arraycopy", desc := "(Ljava/lang/Object;ILjava/lang/Object;II)V" } : Jvm.MethodName)) ∈ zm_tb := zw_493
theorem zj_cpS : (Jvm.Cond.static ({ cls := "java/lang/System", name := "arraycopy", desc := "(Ljava/lang/Object;ILjava/lang/Object;II)V" } : Jvm.MethodName)) ∈ zm_tb := zw_494
theorem zj_cpN : (Jvm.Cond.native ({ cls := "java/lang/System", name := "arraycopy", desc := "(Ljava/lang/Object;ILjava/lang/Object;II)V" } : Jvm.MethodName)) ∈ zm_tb := zw_495
theorem zj_sysI : (Jvm.Cond.initialized "java/lang/System") ∈ zm_tb := zw_19
end
section
theorem zj_CASTA : (Jvm.Cond.castable "NeedMachine$Arguments" "java/lang/Object") ∈ zm_tb := zm_memT5 54 rfl
theorem zj_CASTC : (Jvm.Cond.castable "NeedMachine$Closure" "java/lang/Object") ∈ zm_tb := zm_memT5 53 rfl
theorem zj_CASTV : (Jvm.Cond.castable "NeedMachine$Value" "java/lang/Object") ∈ zm_tb := zm_memT5 49 rfl
theorem zm_lk_mem {l : List (Nat × zm_I)} {pc : Nat} {q : zm_I} (h : zm_lk l pc = some q) : (pc, q) ∈ l := by
  induction l with
  | nil => cases h
  | cons a r ih =>
    unfold zm_lk at h
    split at h
    · rename_i hp
      cases Option.some.inj h
      rw [← Nat.eq_of_beq_eq_true hp]
      exact List.mem_cons_self
    · exact List.mem_cons_of_mem _ (ih h)
theorem zm_okl1 {k : Nat} {l : List (Nat × zm_I)} (h : (l.all fun e => decide (decode (zm_by k) e.1 = .ok (e.2.1, zm_ln e.2))) = true) (h2 : ∀ e ∈ l, zm_okq k e.2) : ∀ pc q, zm_lk l pc = some q → zm_oke k pc q := fun pc q hq => ⟨of_decide_eq_true (List.all_eq_true.mp h (pc, q) (zm_lk_mem hq)), h2 (pc, q) (zm_lk_mem hq)⟩
theorem zm_okl2 {k b : Nat} {f g : Nat → Option zm_I} (h1 : ∀ pc q, f pc = some q → zm_oke k pc q) (h2 : ∀ pc q, g pc = some q → zm_oke k pc q) : ∀ pc q, cond (Nat.blt pc b) (f pc) (g pc) = some q → zm_oke k pc q := by
  intro pc q h
  cases hb : Nat.blt pc b with
  | true => rw [hb] at h; exact h1 pc q h
  | false => rw [hb] at h; exact h2 pc q h
theorem zm_okl3 {k : Nat} {f : Nat → Option zm_I} (h1 : ∀ pc q, f pc = some q → zm_oke k pc q) : ∀ mi pc q, cond (Nat.beq mi k) (f pc) none = some q → zm_oke mi pc q := by
  intro mi pc q h
  cases hb : Nat.beq mi k with
  | true => rw [hb] at h; rw [Nat.eq_of_beq_eq_true hb]; exact h1 pc q h
  | false => rw [hb] at h; cases h
theorem zm_okl4 {b : Nat} {f g : Nat → Nat → Option zm_I} (h1 : ∀ mi pc q, f mi pc = some q → zm_oke mi pc q) (h2 : ∀ mi pc q, g mi pc = some q → zm_oke mi pc q) : ∀ mi pc q, cond (Nat.blt mi b) (f mi pc) (g mi pc) = some q → zm_oke mi pc q := by
  intro mi pc q h
  cases hb : Nat.blt mi b with
  | true => rw [hb] at h; exact h1 mi pc q h
  | false => rw [hb] at h; exact h2 mi pc q h
theorem zm_ga0 : ∀ pc q, zm_g0 pc = some q → zm_oke 0 pc q := zm_okl2 (zm_okl2 (zm_okl2 (zm_okl2 (zm_okl1 zd_0_0 zq_0_0) (zm_okl2 (zm_okl1 zd_0_1 zq_0_1) (zm_okl1 zd_0_2 zq_0_2))) (zm_okl2 (zm_okl1 zd_0_3 zq_0_3) (zm_okl2 (zm_okl1 zd_0_4 zq_0_4) (zm_okl1 zd_0_5 zq_0_5)))) (zm_okl2 (zm_okl2 (zm_okl1 zd_0_6 zq_0_6) (zm_okl2 (zm_okl1 zd_0_7 zq_0_7) (zm_okl1 zd_0_8 zq_0_8))) (zm_okl2 (zm_okl1 zd_0_9 zq_0_9) (zm_okl2 (zm_okl1 zd_0_10 zq_0_10) (zm_okl1 zd_0_11 zq_0_11))))) (zm_okl2 (zm_okl2 (zm_okl2 (zm_okl1 zd_0_12 zq_0_12) (zm_okl2 (zm_okl1 zd_0_13 zq_0_13) (zm_okl1 zd_0_14 zq_0_14))) (zm_okl2 (zm_okl1 zd_0_15 zq_0_15) (zm_okl2 (zm_okl1 zd_0_16 zq_0_16) (zm_okl1 zd_0_17 zq_0_17)))) (zm_okl2 (zm_okl2 (zm_okl1 zd_0_18 zq_0_18) (zm_okl2 (zm_okl1 zd_0_19 zq_0_19) (zm_okl1 zd_0_20 zq_0_20))) (zm_okl2 (zm_okl1 zd_0_21 zq_0_21) (zm_okl2 (zm_okl1 zd_0_22 zq_0_22) (zm_okl1 zd_0_23 zq_0_23)))))
theorem zm_ga1 : ∀ pc q, zm_g1 pc = some q → zm_oke 1 pc q := zm_okl2 (zm_okl1 zd_1_0 zq_1_0) (zm_okl2 (zm_okl1 zd_1_1 zq_1_1) (zm_okl1 zd_1_2 zq_1_2))
theorem zm_ga2 : ∀ pc q, zm_g2 pc = some q → zm_oke 2 pc q := zm_okl1 zd_2_0 zq_2_0
theorem zm_ga3 : ∀ pc q, zm_g3 pc = some q → zm_oke 3 pc q := zm_okl2 (zm_okl1 zd_3_0 zq_3_0) (zm_okl2 (zm_okl1 zd_3_1 zq_3_1) (zm_okl1 zd_3_2 zq_3_2))
theorem zm_ga4 : ∀ pc q, zm_g4 pc = some q → zm_oke 4 pc q := zm_okl2 (zm_okl2 (zm_okl1 zd_4_0 zq_4_0) (zm_okl1 zd_4_1 zq_4_1)) (zm_okl2 (zm_okl1 zd_4_2 zq_4_2) (zm_okl2 (zm_okl1 zd_4_3 zq_4_3) (zm_okl1 zd_4_4 zq_4_4)))
theorem zm_ga5 : ∀ pc q, zm_g5 pc = some q → zm_oke 5 pc q := zm_okl1 zd_5_0 zq_5_0
theorem zm_ga6 : ∀ pc q, zm_g6 pc = some q → zm_oke 6 pc q := zm_okl1 zd_6_0 zq_6_0
theorem zm_ga7 : ∀ pc q, zm_g7 pc = some q → zm_oke 7 pc q := zm_okl1 zd_7_0 zq_7_0
theorem zm_ga8 : ∀ pc q, zm_g8 pc = some q → zm_oke 8 pc q := zm_okl1 zd_8_0 zq_8_0
theorem zm_ga9 : ∀ pc q, zm_g9 pc = some q → zm_oke 9 pc q := zm_okl2 (zm_okl2 (zm_okl1 zd_9_0 zq_9_0) (zm_okl1 zd_9_1 zq_9_1)) (zm_okl2 (zm_okl1 zd_9_2 zq_9_2) (zm_okl2 (zm_okl1 zd_9_3 zq_9_3) (zm_okl1 zd_9_4 zq_9_4)))
theorem zm_ga10 : ∀ pc q, zm_g10 pc = some q → zm_oke 10 pc q := zm_okl2 (zm_okl2 (zm_okl1 zd_10_0 zq_10_0) (zm_okl1 zd_10_1 zq_10_1)) (zm_okl2 (zm_okl1 zd_10_2 zq_10_2) (zm_okl1 zd_10_3 zq_10_3))
theorem zm_ga11 : ∀ pc q, zm_g11 pc = some q → zm_oke 11 pc q := zm_okl2 (zm_okl1 zd_11_0 zq_11_0) (zm_okl2 (zm_okl1 zd_11_1 zq_11_1) (zm_okl1 zd_11_2 zq_11_2))
theorem zm_ga12 : ∀ pc q, zm_g12 pc = some q → zm_oke 12 pc q := zm_okl1 zd_12_0 zq_12_0
theorem zm_ga13 : ∀ pc q, zm_g13 pc = some q → zm_oke 13 pc q := zm_okl2 (zm_okl2 (zm_okl2 (zm_okl1 zd_13_0 zq_13_0) (zm_okl1 zd_13_1 zq_13_1)) (zm_okl2 (zm_okl1 zd_13_2 zq_13_2) (zm_okl2 (zm_okl1 zd_13_3 zq_13_3) (zm_okl1 zd_13_4 zq_13_4)))) (zm_okl2 (zm_okl2 (zm_okl1 zd_13_5 zq_13_5) (zm_okl2 (zm_okl1 zd_13_6 zq_13_6) (zm_okl1 zd_13_7 zq_13_7))) (zm_okl2 (zm_okl1 zd_13_8 zq_13_8) (zm_okl2 (zm_okl1 zd_13_9 zq_13_9) (zm_okl1 zd_13_10 zq_13_10))))
theorem zm_ga14 : ∀ pc q, zm_g14 pc = some q → zm_oke 14 pc q := zm_okl2 (zm_okl1 zd_14_0 zq_14_0) (zm_okl1 zd_14_1 zq_14_1)
theorem zm_ga15 : ∀ pc q, zm_g15 pc = some q → zm_oke 15 pc q := zm_okl2 (zm_okl1 zd_15_0 zq_15_0) (zm_okl1 zd_15_1 zq_15_1)
theorem zm_ga16 : ∀ pc q, zm_g16 pc = some q → zm_oke 16 pc q := zm_okl2 (zm_okl1 zd_16_0 zq_16_0) (zm_okl2 (zm_okl1 zd_16_1 zq_16_1) (zm_okl1 zd_16_2 zq_16_2))
theorem zm_ga17 : ∀ pc q, zm_g17 pc = some q → zm_oke 17 pc q := zm_okl2 (zm_okl2 (zm_okl2 (zm_okl1 zd_17_0 zq_17_0) (zm_okl2 (zm_okl1 zd_17_1 zq_17_1) (zm_okl1 zd_17_2 zq_17_2))) (zm_okl2 (zm_okl1 zd_17_3 zq_17_3) (zm_okl2 (zm_okl1 zd_17_4 zq_17_4) (zm_okl1 zd_17_5 zq_17_5)))) (zm_okl2 (zm_okl2 (zm_okl1 zd_17_6 zq_17_6) (zm_okl2 (zm_okl1 zd_17_7 zq_17_7) (zm_okl1 zd_17_8 zq_17_8))) (zm_okl2 (zm_okl1 zd_17_9 zq_17_9) (zm_okl2 (zm_okl1 zd_17_10 zq_17_10) (zm_okl1 zd_17_11 zq_17_11))))
theorem zm_ga18 : ∀ pc q, zm_g18 pc = some q → zm_oke 18 pc q := zm_okl2 (zm_okl1 zd_18_0 zq_18_0) (zm_okl2 (zm_okl1 zd_18_1 zq_18_1) (zm_okl1 zd_18_2 zq_18_2))
theorem zm_ga19 : ∀ pc q, zm_g19 pc = some q → zm_oke 19 pc q := zm_okl2 (zm_okl1 zd_19_0 zq_19_0) (zm_okl1 zd_19_1 zq_19_1)
theorem zm_ga20 : ∀ pc q, zm_g20 pc = some q → zm_oke 20 pc q := zm_okl2 (zm_okl1 zd_20_0 zq_20_0) (zm_okl1 zd_20_1 zq_20_1)
theorem zm_ga21 : ∀ pc q, zm_g21 pc = some q → zm_oke 21 pc q := zm_okl2 (zm_okl2 (zm_okl1 zd_21_0 zq_21_0) (zm_okl2 (zm_okl1 zd_21_1 zq_21_1) (zm_okl1 zd_21_2 zq_21_2))) (zm_okl2 (zm_okl2 (zm_okl1 zd_21_3 zq_21_3) (zm_okl1 zd_21_4 zq_21_4)) (zm_okl2 (zm_okl1 zd_21_5 zq_21_5) (zm_okl1 zd_21_6 zq_21_6)))
theorem zm_ga22 : ∀ pc q, zm_g22 pc = some q → zm_oke 22 pc q := zm_okl2 (zm_okl1 zd_22_0 zq_22_0) (zm_okl2 (zm_okl1 zd_22_1 zq_22_1) (zm_okl1 zd_22_2 zq_22_2))
theorem zm_ga23 : ∀ pc q, zm_g23 pc = some q → zm_oke 23 pc q := zm_okl2 (zm_okl1 zd_23_0 zq_23_0) (zm_okl2 (zm_okl1 zd_23_1 zq_23_1) (zm_okl1 zd_23_2 zq_23_2))
theorem zm_ga24 : ∀ pc q, zm_g24 pc = some q → zm_oke 24 pc q := zm_okl2 (zm_okl2 (zm_okl1 zd_24_0 zq_24_0) (zm_okl1 zd_24_1 zq_24_1)) (zm_okl2 (zm_okl1 zd_24_2 zq_24_2) (zm_okl1 zd_24_3 zq_24_3))
theorem zm_ga25 : ∀ pc q, zm_g25 pc = some q → zm_oke 25 pc q := zm_okl2 (zm_okl2 (zm_okl2 (zm_okl1 zd_25_0 zq_25_0) (zm_okl2 (zm_okl1 zd_25_1 zq_25_1) (zm_okl1 zd_25_2 zq_25_2))) (zm_okl2 (zm_okl2 (zm_okl1 zd_25_3 zq_25_3) (zm_okl1 zd_25_4 zq_25_4)) (zm_okl2 (zm_okl1 zd_25_5 zq_25_5) (zm_okl1 zd_25_6 zq_25_6)))) (zm_okl2 (zm_okl2 (zm_okl2 (zm_okl1 zd_25_7 zq_25_7) (zm_okl1 zd_25_8 zq_25_8)) (zm_okl2 (zm_okl1 zd_25_9 zq_25_9) (zm_okl1 zd_25_10 zq_25_10))) (zm_okl2 (zm_okl2 (zm_okl1 zd_25_11 zq_25_11) (zm_okl1 zd_25_12 zq_25_12)) (zm_okl2 (zm_okl1 zd_25_13 zq_25_13) (zm_okl1 zd_25_14 zq_25_14))))
theorem zm_ga26 : ∀ pc q, zm_g26 pc = some q → zm_oke 26 pc q := zm_okl2 (zm_okl2 (zm_okl1 zd_26_0 zq_26_0) (zm_okl1 zd_26_1 zq_26_1)) (zm_okl2 (zm_okl1 zd_26_2 zq_26_2) (zm_okl2 (zm_okl1 zd_26_3 zq_26_3) (zm_okl1 zd_26_4 zq_26_4)))
theorem zm_ga27 : ∀ pc q, zm_g27 pc = some q → zm_oke 27 pc q := zm_okl2 (zm_okl1 zd_27_0 zq_27_0) (zm_okl1 zd_27_1 zq_27_1)
theorem zm_ga28 : ∀ pc q, zm_g28 pc = some q → zm_oke 28 pc q := zm_okl2 (zm_okl1 zd_28_0 zq_28_0) (zm_okl2 (zm_okl1 zd_28_1 zq_28_1) (zm_okl1 zd_28_2 zq_28_2))
theorem zm_ga29 : ∀ pc q, zm_g29 pc = some q → zm_oke 29 pc q := zm_okl2 (zm_okl1 zd_29_0 zq_29_0) (zm_okl1 zd_29_1 zq_29_1)
theorem zm_ga30 : ∀ pc q, zm_g30 pc = some q → zm_oke 30 pc q := zm_okl2 (zm_okl2 (zm_okl2 (zm_okl1 zd_30_0 zq_30_0) (zm_okl1 zd_30_1 zq_30_1)) (zm_okl2 (zm_okl1 zd_30_2 zq_30_2) (zm_okl1 zd_30_3 zq_30_3))) (zm_okl2 (zm_okl2 (zm_okl1 zd_30_4 zq_30_4) (zm_okl1 zd_30_5 zq_30_5)) (zm_okl2 (zm_okl1 zd_30_6 zq_30_6) (zm_okl2 (zm_okl1 zd_30_7 zq_30_7) (zm_okl1 zd_30_8 zq_30_8))))
theorem zm_ga31 : ∀ pc q, zm_g31 pc = some q → zm_oke 31 pc q := zm_okl2 (zm_okl1 zd_31_0 zq_31_0) (zm_okl2 (zm_okl1 zd_31_1 zq_31_1) (zm_okl1 zd_31_2 zq_31_2))
theorem zm_ga32 : ∀ pc q, zm_g32 pc = some q → zm_oke 32 pc q := zm_okl2 (zm_okl1 zd_32_0 zq_32_0) (zm_okl1 zd_32_1 zq_32_1)
theorem zm_ga33 : ∀ pc q, zm_g33 pc = some q → zm_oke 33 pc q := zm_okl2 (zm_okl2 (zm_okl1 zd_33_0 zq_33_0) (zm_okl1 zd_33_1 zq_33_1)) (zm_okl2 (zm_okl1 zd_33_2 zq_33_2) (zm_okl1 zd_33_3 zq_33_3))
theorem zm_ga34 : ∀ pc q, zm_g34 pc = some q → zm_oke 34 pc q := zm_okl2 (zm_okl2 (zm_okl1 zd_34_0 zq_34_0) (zm_okl1 zd_34_1 zq_34_1)) (zm_okl2 (zm_okl1 zd_34_2 zq_34_2) (zm_okl2 (zm_okl1 zd_34_3 zq_34_3) (zm_okl1 zd_34_4 zq_34_4)))
theorem zm_ga35 : ∀ pc q, zm_g35 pc = some q → zm_oke 35 pc q := zm_okl1 zd_35_0 zq_35_0
theorem zm_ga36 : ∀ pc q, zm_g36 pc = some q → zm_oke 36 pc q := zm_okl2 (zm_okl1 zd_36_0 zq_36_0) (zm_okl1 zd_36_1 zq_36_1)
theorem zm_ga37 : ∀ pc q, zm_g37 pc = some q → zm_oke 37 pc q := zm_okl2 (zm_okl2 (zm_okl2 (zm_okl2 (zm_okl1 zd_37_0 zq_37_0) (zm_okl1 zd_37_1 zq_37_1)) (zm_okl2 (zm_okl1 zd_37_2 zq_37_2) (zm_okl1 zd_37_3 zq_37_3))) (zm_okl2 (zm_okl2 (zm_okl1 zd_37_4 zq_37_4) (zm_okl1 zd_37_5 zq_37_5)) (zm_okl2 (zm_okl1 zd_37_6 zq_37_6) (zm_okl2 (zm_okl1 zd_37_7 zq_37_7) (zm_okl1 zd_37_8 zq_37_8))))) (zm_okl2 (zm_okl2 (zm_okl2 (zm_okl1 zd_37_9 zq_37_9) (zm_okl1 zd_37_10 zq_37_10)) (zm_okl2 (zm_okl1 zd_37_11 zq_37_11) (zm_okl2 (zm_okl1 zd_37_12 zq_37_12) (zm_okl1 zd_37_13 zq_37_13)))) (zm_okl2 (zm_okl2 (zm_okl1 zd_37_14 zq_37_14) (zm_okl1 zd_37_15 zq_37_15)) (zm_okl2 (zm_okl1 zd_37_16 zq_37_16) (zm_okl2 (zm_okl1 zd_37_17 zq_37_17) (zm_okl1 zd_37_18 zq_37_18)))))
theorem zm_ga38 : ∀ pc q, zm_g38 pc = some q → zm_oke 38 pc q := zm_okl2 (zm_okl1 zd_38_0 zq_38_0) (zm_okl1 zd_38_1 zq_38_1)
theorem zm_ga39 : ∀ pc q, zm_g39 pc = some q → zm_oke 39 pc q := zm_okl2 (zm_okl2 (zm_okl1 zd_39_0 zq_39_0) (zm_okl2 (zm_okl1 zd_39_1 zq_39_1) (zm_okl1 zd_39_2 zq_39_2))) (zm_okl2 (zm_okl1 zd_39_3 zq_39_3) (zm_okl2 (zm_okl1 zd_39_4 zq_39_4) (zm_okl1 zd_39_5 zq_39_5)))
theorem zm_ga40 : ∀ pc q, zm_g40 pc = some q → zm_oke 40 pc q := zm_okl2 (zm_okl1 zd_40_0 zq_40_0) (zm_okl2 (zm_okl1 zd_40_1 zq_40_1) (zm_okl1 zd_40_2 zq_40_2))
theorem zm_ga41 : ∀ pc q, zm_g41 pc = some q → zm_oke 41 pc q := zm_okl2 (zm_okl2 (zm_okl1 zd_41_0 zq_41_0) (zm_okl2 (zm_okl1 zd_41_1 zq_41_1) (zm_okl1 zd_41_2 zq_41_2))) (zm_okl2 (zm_okl1 zd_41_3 zq_41_3) (zm_okl2 (zm_okl1 zd_41_4 zq_41_4) (zm_okl1 zd_41_5 zq_41_5)))
theorem zm_ga42 : ∀ pc q, zm_g42 pc = some q → zm_oke 42 pc q := zm_okl1 zd_42_0 zq_42_0
theorem zm_ga43 : ∀ pc q, zm_g43 pc = some q → zm_oke 43 pc q := zm_okl2 (zm_okl2 (zm_okl1 zd_43_0 zq_43_0) (zm_okl1 zd_43_1 zq_43_1)) (zm_okl2 (zm_okl1 zd_43_2 zq_43_2) (zm_okl1 zd_43_3 zq_43_3))
theorem zm_ga44 : ∀ pc q, zm_g44 pc = some q → zm_oke 44 pc q := zm_okl2 (zm_okl1 zd_44_0 zq_44_0) (zm_okl1 zd_44_1 zq_44_1)
theorem zm_ga45 : ∀ pc q, zm_g45 pc = some q → zm_oke 45 pc q := zm_okl2 (zm_okl2 (zm_okl1 zd_45_0 zq_45_0) (zm_okl1 zd_45_1 zq_45_1)) (zm_okl2 (zm_okl1 zd_45_2 zq_45_2) (zm_okl2 (zm_okl1 zd_45_3 zq_45_3) (zm_okl1 zd_45_4 zq_45_4)))
theorem zm_ga46 : ∀ pc q, zm_g46 pc = some q → zm_oke 46 pc q := zm_okl2 (zm_okl1 zd_46_0 zq_46_0) (zm_okl1 zd_46_1 zq_46_1)
theorem zm_ga47 : ∀ pc q, zm_g47 pc = some q → zm_oke 47 pc q := zm_okl2 (zm_okl1 zd_47_0 zq_47_0) (zm_okl2 (zm_okl1 zd_47_1 zq_47_1) (zm_okl1 zd_47_2 zq_47_2))
theorem zm_ga48 : ∀ pc q, zm_g48 pc = some q → zm_oke 48 pc q := zm_okl2 (zm_okl2 (zm_okl1 zd_48_0 zq_48_0) (zm_okl2 (zm_okl1 zd_48_1 zq_48_1) (zm_okl1 zd_48_2 zq_48_2))) (zm_okl2 (zm_okl2 (zm_okl1 zd_48_3 zq_48_3) (zm_okl1 zd_48_4 zq_48_4)) (zm_okl2 (zm_okl1 zd_48_5 zq_48_5) (zm_okl1 zd_48_6 zq_48_6)))
theorem zm_ga49 : ∀ pc q, zm_g49 pc = some q → zm_oke 49 pc q := zm_okl1 zd_49_0 zq_49_0
theorem zm_ga50 : ∀ pc q, zm_g50 pc = some q → zm_oke 50 pc q := zm_okl2 (zm_okl1 zd_50_0 zq_50_0) (zm_okl1 zd_50_1 zq_50_1)
theorem zm_ga51 : ∀ pc q, zm_g51 pc = some q → zm_oke 51 pc q := zm_okl2 (zm_okl2 (zm_okl2 (zm_okl1 zd_51_0 zq_51_0) (zm_okl1 zd_51_1 zq_51_1)) (zm_okl2 (zm_okl1 zd_51_2 zq_51_2) (zm_okl1 zd_51_3 zq_51_3))) (zm_okl2 (zm_okl2 (zm_okl1 zd_51_4 zq_51_4) (zm_okl1 zd_51_5 zq_51_5)) (zm_okl2 (zm_okl1 zd_51_6 zq_51_6) (zm_okl1 zd_51_7 zq_51_7)))
theorem zm_ga52 : ∀ pc q, zm_g52 pc = some q → zm_oke 52 pc q := zm_okl2 (zm_okl2 (zm_okl2 (zm_okl1 zd_52_0 zq_52_0) (zm_okl1 zd_52_1 zq_52_1)) (zm_okl2 (zm_okl1 zd_52_2 zq_52_2) (zm_okl1 zd_52_3 zq_52_3))) (zm_okl2 (zm_okl2 (zm_okl1 zd_52_4 zq_52_4) (zm_okl1 zd_52_5 zq_52_5)) (zm_okl2 (zm_okl1 zd_52_6 zq_52_6) (zm_okl1 zd_52_7 zq_52_7)))
theorem zm_ga53 : ∀ pc q, zm_g53 pc = some q → zm_oke 53 pc q := zm_okl1 zd_53_0 zq_53_0
theorem zm_ga54 : ∀ pc q, zm_g54 pc = some q → zm_oke 54 pc q := zm_okl2 (zm_okl1 zd_54_0 zq_54_0) (zm_okl1 zd_54_1 zq_54_1)
theorem zm_ga55 : ∀ pc q, zm_g55 pc = some q → zm_oke 55 pc q := zm_okl2 (zm_okl1 zd_55_0 zq_55_0) (zm_okl2 (zm_okl1 zd_55_1 zq_55_1) (zm_okl1 zd_55_2 zq_55_2))
theorem zm_ga56 : ∀ pc q, zm_g56 pc = some q → zm_oke 56 pc q := zm_okl2 (zm_okl2 (zm_okl1 zd_56_0 zq_56_0) (zm_okl1 zd_56_1 zq_56_1)) (zm_okl2 (zm_okl1 zd_56_2 zq_56_2) (zm_okl1 zd_56_3 zq_56_3))
theorem zm_ga57 : ∀ pc q, zm_g57 pc = some q → zm_oke 57 pc q := zm_okl1 zd_57_0 zq_57_0
theorem zm_ga58 : ∀ pc q, zm_g58 pc = some q → zm_oke 58 pc q := zm_okl2 (zm_okl2 (zm_okl1 zd_58_0 zq_58_0) (zm_okl1 zd_58_1 zq_58_1)) (zm_okl2 (zm_okl1 zd_58_2 zq_58_2) (zm_okl2 (zm_okl1 zd_58_3 zq_58_3) (zm_okl1 zd_58_4 zq_58_4)))
theorem zm_ga59 : ∀ pc q, zm_g59 pc = some q → zm_oke 59 pc q := zm_okl2 (zm_okl2 (zm_okl1 zd_59_0 zq_59_0) (zm_okl2 (zm_okl1 zd_59_1 zq_59_1) (zm_okl1 zd_59_2 zq_59_2))) (zm_okl2 (zm_okl2 (zm_okl1 zd_59_3 zq_59_3) (zm_okl1 zd_59_4 zq_59_4)) (zm_okl2 (zm_okl1 zd_59_5 zq_59_5) (zm_okl1 zd_59_6 zq_59_6)))
theorem zm_ga60 : ∀ pc q, zm_g60 pc = some q → zm_oke 60 pc q := zm_okl1 zd_60_0 zq_60_0
theorem zm_ga61 : ∀ pc q, zm_g61 pc = some q → zm_oke 61 pc q := zm_okl2 (zm_okl1 zd_61_0 zq_61_0) (zm_okl2 (zm_okl1 zd_61_1 zq_61_1) (zm_okl1 zd_61_2 zq_61_2))
theorem zm_ga62 : ∀ pc q, zm_g62 pc = some q → zm_oke 62 pc q := zm_okl2 (zm_okl1 zd_62_0 zq_62_0) (zm_okl1 zd_62_1 zq_62_1)
theorem zm_ga63 : ∀ pc q, zm_g63 pc = some q → zm_oke 63 pc q := zm_okl2 (zm_okl2 (zm_okl1 zd_63_0 zq_63_0) (zm_okl1 zd_63_1 zq_63_1)) (zm_okl2 (zm_okl1 zd_63_2 zq_63_2) (zm_okl1 zd_63_3 zq_63_3))
theorem zm_ga64 : ∀ pc q, zm_g64 pc = some q → zm_oke 64 pc q := zm_okl2 (zm_okl1 zd_64_0 zq_64_0) (zm_okl2 (zm_okl1 zd_64_1 zq_64_1) (zm_okl1 zd_64_2 zq_64_2))
theorem zm_ga65 : ∀ pc q, zm_g65 pc = some q → zm_oke 65 pc q := zm_okl2 (zm_okl1 zd_65_0 zq_65_0) (zm_okl1 zd_65_1 zq_65_1)
theorem zm_ga66 : ∀ pc q, zm_g66 pc = some q → zm_oke 66 pc q := zm_okl2 (zm_okl2 (zm_okl1 zd_66_0 zq_66_0) (zm_okl1 zd_66_1 zq_66_1)) (zm_okl2 (zm_okl1 zd_66_2 zq_66_2) (zm_okl1 zd_66_3 zq_66_3))
theorem zm_ga67 : ∀ pc q, zm_g67 pc = some q → zm_oke 67 pc q := zm_okl2 (zm_okl1 zd_67_0 zq_67_0) (zm_okl2 (zm_okl1 zd_67_1 zq_67_1) (zm_okl1 zd_67_2 zq_67_2))
theorem zm_ga68 : ∀ pc q, zm_g68 pc = some q → zm_oke 68 pc q := zm_okl2 (zm_okl1 zd_68_0 zq_68_0) (zm_okl1 zd_68_1 zq_68_1)
theorem zm_ga69 : ∀ pc q, zm_g69 pc = some q → zm_oke 69 pc q := zm_okl2 (zm_okl1 zd_69_0 zq_69_0) (zm_okl2 (zm_okl1 zd_69_1 zq_69_1) (zm_okl1 zd_69_2 zq_69_2))
theorem zm_ga70 : ∀ pc q, zm_g70 pc = some q → zm_oke 70 pc q := zm_okl2 (zm_okl2 (zm_okl2 (zm_okl2 (zm_okl1 zd_70_0 zq_70_0) (zm_okl1 zd_70_1 zq_70_1)) (zm_okl2 (zm_okl1 zd_70_2 zq_70_2) (zm_okl1 zd_70_3 zq_70_3))) (zm_okl2 (zm_okl2 (zm_okl1 zd_70_4 zq_70_4) (zm_okl1 zd_70_5 zq_70_5)) (zm_okl2 (zm_okl1 zd_70_6 zq_70_6) (zm_okl1 zd_70_7 zq_70_7)))) (zm_okl2 (zm_okl2 (zm_okl2 (zm_okl1 zd_70_8 zq_70_8) (zm_okl1 zd_70_9 zq_70_9)) (zm_okl2 (zm_okl1 zd_70_10 zq_70_10) (zm_okl1 zd_70_11 zq_70_11))) (zm_okl2 (zm_okl2 (zm_okl1 zd_70_12 zq_70_12) (zm_okl1 zd_70_13 zq_70_13)) (zm_okl2 (zm_okl1 zd_70_14 zq_70_14) (zm_okl2 (zm_okl1 zd_70_15 zq_70_15) (zm_okl1 zd_70_16 zq_70_16)))))
theorem zm_ga71 : ∀ pc q, zm_g71 pc = some q → zm_oke 71 pc q := zm_okl2 (zm_okl2 (zm_okl2 (zm_okl1 zd_71_0 zq_71_0) (zm_okl2 (zm_okl1 zd_71_1 zq_71_1) (zm_okl1 zd_71_2 zq_71_2))) (zm_okl2 (zm_okl1 zd_71_3 zq_71_3) (zm_okl2 (zm_okl1 zd_71_4 zq_71_4) (zm_okl1 zd_71_5 zq_71_5)))) (zm_okl2 (zm_okl2 (zm_okl1 zd_71_6 zq_71_6) (zm_okl2 (zm_okl1 zd_71_7 zq_71_7) (zm_okl1 zd_71_8 zq_71_8))) (zm_okl2 (zm_okl2 (zm_okl1 zd_71_9 zq_71_9) (zm_okl1 zd_71_10 zq_71_10)) (zm_okl2 (zm_okl1 zd_71_11 zq_71_11) (zm_okl1 zd_71_12 zq_71_12))))
theorem zm_ga72 : ∀ pc q, zm_g72 pc = some q → zm_oke 72 pc q := zm_okl2 (zm_okl1 zd_72_0 zq_72_0) (zm_okl1 zd_72_1 zq_72_1)
theorem zm_ga73 : ∀ pc q, zm_g73 pc = some q → zm_oke 73 pc q := zm_okl2 (zm_okl1 zd_73_0 zq_73_0) (zm_okl2 (zm_okl1 zd_73_1 zq_73_1) (zm_okl1 zd_73_2 zq_73_2))
theorem zm_ga74 : ∀ pc q, zm_g74 pc = some q → zm_oke 74 pc q := zm_okl1 zd_74_0 zq_74_0
theorem zm_ga75 : ∀ pc q, zm_g75 pc = some q → zm_oke 75 pc q := zm_okl2 (zm_okl2 (zm_okl2 (zm_okl2 (zm_okl1 zd_75_0 zq_75_0) (zm_okl1 zd_75_1 zq_75_1)) (zm_okl2 (zm_okl1 zd_75_2 zq_75_2) (zm_okl1 zd_75_3 zq_75_3))) (zm_okl2 (zm_okl2 (zm_okl1 zd_75_4 zq_75_4) (zm_okl1 zd_75_5 zq_75_5)) (zm_okl2 (zm_okl1 zd_75_6 zq_75_6) (zm_okl2 (zm_okl1 zd_75_7 zq_75_7) (zm_okl1 zd_75_8 zq_75_8))))) (zm_okl2 (zm_okl2 (zm_okl2 (zm_okl1 zd_75_9 zq_75_9) (zm_okl1 zd_75_10 zq_75_10)) (zm_okl2 (zm_okl1 zd_75_11 zq_75_11) (zm_okl2 (zm_okl1 zd_75_12 zq_75_12) (zm_okl1 zd_75_13 zq_75_13)))) (zm_okl2 (zm_okl2 (zm_okl1 zd_75_14 zq_75_14) (zm_okl1 zd_75_15 zq_75_15)) (zm_okl2 (zm_okl1 zd_75_16 zq_75_16) (zm_okl2 (zm_okl1 zd_75_17 zq_75_17) (zm_okl1 zd_75_18 zq_75_18)))))
theorem zm_ga76 : ∀ pc q, zm_g76 pc = some q → zm_oke 76 pc q := zm_okl2 (zm_okl2 (zm_okl2 (zm_okl1 zd_76_0 zq_76_0) (zm_okl2 (zm_okl1 zd_76_1 zq_76_1) (zm_okl1 zd_76_2 zq_76_2))) (zm_okl2 (zm_okl1 zd_76_3 zq_76_3) (zm_okl2 (zm_okl1 zd_76_4 zq_76_4) (zm_okl1 zd_76_5 zq_76_5)))) (zm_okl2 (zm_okl2 (zm_okl1 zd_76_6 zq_76_6) (zm_okl2 (zm_okl1 zd_76_7 zq_76_7) (zm_okl1 zd_76_8 zq_76_8))) (zm_okl2 (zm_okl1 zd_76_9 zq_76_9) (zm_okl2 (zm_okl1 zd_76_10 zq_76_10) (zm_okl1 zd_76_11 zq_76_11))))
theorem zm_ga77 : ∀ pc q, zm_g77 pc = some q → zm_oke 77 pc q := zm_okl2 (zm_okl1 zd_77_0 zq_77_0) (zm_okl2 (zm_okl1 zd_77_1 zq_77_1) (zm_okl1 zd_77_2 zq_77_2))
theorem zm_ga78 : ∀ pc q, zm_g78 pc = some q → zm_oke 78 pc q := zm_okl2 (zm_okl2 (zm_okl2 (zm_okl1 zd_78_0 zq_78_0) (zm_okl2 (zm_okl1 zd_78_1 zq_78_1) (zm_okl1 zd_78_2 zq_78_2))) (zm_okl2 (zm_okl1 zd_78_3 zq_78_3) (zm_okl2 (zm_okl1 zd_78_4 zq_78_4) (zm_okl1 zd_78_5 zq_78_5)))) (zm_okl2 (zm_okl2 (zm_okl1 zd_78_6 zq_78_6) (zm_okl2 (zm_okl1 zd_78_7 zq_78_7) (zm_okl1 zd_78_8 zq_78_8))) (zm_okl2 (zm_okl2 (zm_okl1 zd_78_9 zq_78_9) (zm_okl1 zd_78_10 zq_78_10)) (zm_okl2 (zm_okl1 zd_78_11 zq_78_11) (zm_okl1 zd_78_12 zq_78_12))))
theorem zm_ga79 : ∀ pc q, zm_g79 pc = some q → zm_oke 79 pc q := zm_okl2 (zm_okl2 (zm_okl2 (zm_okl1 zd_79_0 zq_79_0) (zm_okl2 (zm_okl1 zd_79_1 zq_79_1) (zm_okl1 zd_79_2 zq_79_2))) (zm_okl2 (zm_okl1 zd_79_3 zq_79_3) (zm_okl2 (zm_okl1 zd_79_4 zq_79_4) (zm_okl1 zd_79_5 zq_79_5)))) (zm_okl2 (zm_okl2 (zm_okl1 zd_79_6 zq_79_6) (zm_okl2 (zm_okl1 zd_79_7 zq_79_7) (zm_okl1 zd_79_8 zq_79_8))) (zm_okl2 (zm_okl1 zd_79_9 zq_79_9) (zm_okl2 (zm_okl1 zd_79_10 zq_79_10) (zm_okl1 zd_79_11 zq_79_11))))
theorem zm_ga80 : ∀ pc q, zm_g80 pc = some q → zm_oke 80 pc q := zm_okl2 (zm_okl2 (zm_okl1 zd_80_0 zq_80_0) (zm_okl1 zd_80_1 zq_80_1)) (zm_okl2 (zm_okl1 zd_80_2 zq_80_2) (zm_okl2 (zm_okl1 zd_80_3 zq_80_3) (zm_okl1 zd_80_4 zq_80_4)))
theorem zm_ga81 : ∀ pc q, zm_g81 pc = some q → zm_oke 81 pc q := zm_okl2 (zm_okl2 (zm_okl2 (zm_okl1 zd_81_0 zq_81_0) (zm_okl1 zd_81_1 zq_81_1)) (zm_okl2 (zm_okl1 zd_81_2 zq_81_2) (zm_okl1 zd_81_3 zq_81_3))) (zm_okl2 (zm_okl2 (zm_okl1 zd_81_4 zq_81_4) (zm_okl1 zd_81_5 zq_81_5)) (zm_okl2 (zm_okl1 zd_81_6 zq_81_6) (zm_okl1 zd_81_7 zq_81_7)))
theorem zm_ga82 : ∀ pc q, zm_g82 pc = some q → zm_oke 82 pc q := zm_okl2 (zm_okl2 (zm_okl2 (zm_okl1 zd_82_0 zq_82_0) (zm_okl2 (zm_okl1 zd_82_1 zq_82_1) (zm_okl1 zd_82_2 zq_82_2))) (zm_okl2 (zm_okl1 zd_82_3 zq_82_3) (zm_okl2 (zm_okl1 zd_82_4 zq_82_4) (zm_okl1 zd_82_5 zq_82_5)))) (zm_okl2 (zm_okl2 (zm_okl1 zd_82_6 zq_82_6) (zm_okl2 (zm_okl1 zd_82_7 zq_82_7) (zm_okl1 zd_82_8 zq_82_8))) (zm_okl2 (zm_okl2 (zm_okl1 zd_82_9 zq_82_9) (zm_okl1 zd_82_10 zq_82_10)) (zm_okl2 (zm_okl1 zd_82_11 zq_82_11) (zm_okl1 zd_82_12 zq_82_12))))
theorem zm_ga83 : ∀ pc q, zm_g83 pc = some q → zm_oke 83 pc q := zm_okl2 (zm_okl2 (zm_okl1 zd_83_0 zq_83_0) (zm_okl1 zd_83_1 zq_83_1)) (zm_okl2 (zm_okl1 zd_83_2 zq_83_2) (zm_okl1 zd_83_3 zq_83_3))
theorem zm_ga84 : ∀ pc q, zm_g84 pc = some q → zm_oke 84 pc q := zm_okl2 (zm_okl1 zd_84_0 zq_84_0) (zm_okl2 (zm_okl1 zd_84_1 zq_84_1) (zm_okl1 zd_84_2 zq_84_2))
theorem zm_ga85 : ∀ pc q, zm_g85 pc = some q → zm_oke 85 pc q := zm_okl2 (zm_okl2 (zm_okl2 (zm_okl1 zd_85_0 zq_85_0) (zm_okl1 zd_85_1 zq_85_1)) (zm_okl2 (zm_okl1 zd_85_2 zq_85_2) (zm_okl1 zd_85_3 zq_85_3))) (zm_okl2 (zm_okl2 (zm_okl1 zd_85_4 zq_85_4) (zm_okl1 zd_85_5 zq_85_5)) (zm_okl2 (zm_okl1 zd_85_6 zq_85_6) (zm_okl1 zd_85_7 zq_85_7)))
theorem zm_ga86 : ∀ pc q, zm_g86 pc = some q → zm_oke 86 pc q := zm_okl2 (zm_okl2 (zm_okl2 (zm_okl2 (zm_okl1 zd_86_0 zq_86_0) (zm_okl1 zd_86_1 zq_86_1)) (zm_okl2 (zm_okl1 zd_86_2 zq_86_2) (zm_okl2 (zm_okl1 zd_86_3 zq_86_3) (zm_okl1 zd_86_4 zq_86_4)))) (zm_okl2 (zm_okl2 (zm_okl1 zd_86_5 zq_86_5) (zm_okl2 (zm_okl1 zd_86_6 zq_86_6) (zm_okl1 zd_86_7 zq_86_7))) (zm_okl2 (zm_okl1 zd_86_8 zq_86_8) (zm_okl2 (zm_okl1 zd_86_9 zq_86_9) (zm_okl1 zd_86_10 zq_86_10))))) (zm_okl2 (zm_okl2 (zm_okl2 (zm_okl1 zd_86_11 zq_86_11) (zm_okl2 (zm_okl1 zd_86_12 zq_86_12) (zm_okl1 zd_86_13 zq_86_13))) (zm_okl2 (zm_okl1 zd_86_14 zq_86_14) (zm_okl2 (zm_okl1 zd_86_15 zq_86_15) (zm_okl1 zd_86_16 zq_86_16)))) (zm_okl2 (zm_okl2 (zm_okl1 zd_86_17 zq_86_17) (zm_okl2 (zm_okl1 zd_86_18 zq_86_18) (zm_okl1 zd_86_19 zq_86_19))) (zm_okl2 (zm_okl1 zd_86_20 zq_86_20) (zm_okl2 (zm_okl1 zd_86_21 zq_86_21) (zm_okl1 zd_86_22 zq_86_22)))))
theorem zm_ga87 : ∀ pc q, zm_g87 pc = some q → zm_oke 87 pc q := zm_okl2 (zm_okl2 (zm_okl1 zd_87_0 zq_87_0) (zm_okl2 (zm_okl1 zd_87_1 zq_87_1) (zm_okl1 zd_87_2 zq_87_2))) (zm_okl2 (zm_okl1 zd_87_3 zq_87_3) (zm_okl2 (zm_okl1 zd_87_4 zq_87_4) (zm_okl1 zd_87_5 zq_87_5)))
theorem zm_ga88 : ∀ pc q, zm_g88 pc = some q → zm_oke 88 pc q := zm_okl2 (zm_okl1 zd_88_0 zq_88_0) (zm_okl2 (zm_okl1 zd_88_1 zq_88_1) (zm_okl1 zd_88_2 zq_88_2))
theorem zm_ga89 : ∀ pc q, zm_g89 pc = some q → zm_oke 89 pc q := zm_okl2 (zm_okl1 zd_89_0 zq_89_0) (zm_okl2 (zm_okl1 zd_89_1 zq_89_1) (zm_okl1 zd_89_2 zq_89_2))
theorem zm_ga90 : ∀ pc q, zm_g90 pc = some q → zm_oke 90 pc q := zm_okl2 (zm_okl2 (zm_okl2 (zm_okl2 (zm_okl1 zd_90_0 zq_90_0) (zm_okl2 (zm_okl1 zd_90_1 zq_90_1) (zm_okl1 zd_90_2 zq_90_2))) (zm_okl2 (zm_okl1 zd_90_3 zq_90_3) (zm_okl2 (zm_okl1 zd_90_4 zq_90_4) (zm_okl1 zd_90_5 zq_90_5)))) (zm_okl2 (zm_okl2 (zm_okl1 zd_90_6 zq_90_6) (zm_okl2 (zm_okl1 zd_90_7 zq_90_7) (zm_okl1 zd_90_8 zq_90_8))) (zm_okl2 (zm_okl2 (zm_okl1 zd_90_9 zq_90_9) (zm_okl1 zd_90_10 zq_90_10)) (zm_okl2 (zm_okl1 zd_90_11 zq_90_11) (zm_okl1 zd_90_12 zq_90_12))))) (zm_okl2 (zm_okl2 (zm_okl2 (zm_okl1 zd_90_13 zq_90_13) (zm_okl2 (zm_okl1 zd_90_14 zq_90_14) (zm_okl1 zd_90_15 zq_90_15))) (zm_okl2 (zm_okl1 zd_90_16 zq_90_16) (zm_okl2 (zm_okl1 zd_90_17 zq_90_17) (zm_okl1 zd_90_18 zq_90_18)))) (zm_okl2 (zm_okl2 (zm_okl1 zd_90_19 zq_90_19) (zm_okl2 (zm_okl1 zd_90_20 zq_90_20) (zm_okl1 zd_90_21 zq_90_21))) (zm_okl2 (zm_okl2 (zm_okl1 zd_90_22 zq_90_22) (zm_okl1 zd_90_23 zq_90_23)) (zm_okl2 (zm_okl1 zd_90_24 zq_90_24) (zm_okl1 zd_90_25 zq_90_25)))))
theorem zm_ga91 : ∀ pc q, zm_g91 pc = some q → zm_oke 91 pc q := zm_okl2 (zm_okl2 (zm_okl2 (zm_okl1 zd_91_0 zq_91_0) (zm_okl2 (zm_okl1 zd_91_1 zq_91_1) (zm_okl1 zd_91_2 zq_91_2))) (zm_okl2 (zm_okl2 (zm_okl1 zd_91_3 zq_91_3) (zm_okl1 zd_91_4 zq_91_4)) (zm_okl2 (zm_okl1 zd_91_5 zq_91_5) (zm_okl1 zd_91_6 zq_91_6)))) (zm_okl2 (zm_okl2 (zm_okl1 zd_91_7 zq_91_7) (zm_okl2 (zm_okl1 zd_91_8 zq_91_8) (zm_okl1 zd_91_9 zq_91_9))) (zm_okl2 (zm_okl2 (zm_okl1 zd_91_10 zq_91_10) (zm_okl1 zd_91_11 zq_91_11)) (zm_okl2 (zm_okl1 zd_91_12 zq_91_12) (zm_okl1 zd_91_13 zq_91_13))))
theorem zm_ga92 : ∀ pc q, zm_g92 pc = some q → zm_oke 92 pc q := zm_okl2 (zm_okl2 (zm_okl2 (zm_okl1 zd_92_0 zq_92_0) (zm_okl1 zd_92_1 zq_92_1)) (zm_okl2 (zm_okl1 zd_92_2 zq_92_2) (zm_okl1 zd_92_3 zq_92_3))) (zm_okl2 (zm_okl2 (zm_okl1 zd_92_4 zq_92_4) (zm_okl1 zd_92_5 zq_92_5)) (zm_okl2 (zm_okl1 zd_92_6 zq_92_6) (zm_okl1 zd_92_7 zq_92_7)))
theorem zm_ga93 : ∀ pc q, zm_g93 pc = some q → zm_oke 93 pc q := zm_okl2 (zm_okl1 zd_93_0 zq_93_0) (zm_okl2 (zm_okl1 zd_93_1 zq_93_1) (zm_okl1 zd_93_2 zq_93_2))
theorem zm_ga94 : ∀ pc q, zm_g94 pc = some q → zm_oke 94 pc q := zm_okl2 (zm_okl1 zd_94_0 zq_94_0) (zm_okl2 (zm_okl1 zd_94_1 zq_94_1) (zm_okl1 zd_94_2 zq_94_2))
theorem zm_ga95 : ∀ pc q, zm_g95 pc = some q → zm_oke 95 pc q := zm_okl2 (zm_okl2 (zm_okl2 (zm_okl2 (zm_okl1 zd_95_0 zq_95_0) (zm_okl1 zd_95_1 zq_95_1)) (zm_okl2 (zm_okl1 zd_95_2 zq_95_2) (zm_okl1 zd_95_3 zq_95_3))) (zm_okl2 (zm_okl2 (zm_okl1 zd_95_4 zq_95_4) (zm_okl1 zd_95_5 zq_95_5)) (zm_okl2 (zm_okl1 zd_95_6 zq_95_6) (zm_okl2 (zm_okl1 zd_95_7 zq_95_7) (zm_okl1 zd_95_8 zq_95_8))))) (zm_okl2 (zm_okl2 (zm_okl2 (zm_okl1 zd_95_9 zq_95_9) (zm_okl1 zd_95_10 zq_95_10)) (zm_okl2 (zm_okl1 zd_95_11 zq_95_11) (zm_okl1 zd_95_12 zq_95_12))) (zm_okl2 (zm_okl2 (zm_okl1 zd_95_13 zq_95_13) (zm_okl1 zd_95_14 zq_95_14)) (zm_okl2 (zm_okl1 zd_95_15 zq_95_15) (zm_okl2 (zm_okl1 zd_95_16 zq_95_16) (zm_okl1 zd_95_17 zq_95_17)))))
theorem zm_ga96 : ∀ pc q, zm_g96 pc = some q → zm_oke 96 pc q := zm_okl2 (zm_okl2 (zm_okl2 (zm_okl1 zd_96_0 zq_96_0) (zm_okl1 zd_96_1 zq_96_1)) (zm_okl2 (zm_okl1 zd_96_2 zq_96_2) (zm_okl2 (zm_okl1 zd_96_3 zq_96_3) (zm_okl1 zd_96_4 zq_96_4)))) (zm_okl2 (zm_okl2 (zm_okl1 zd_96_5 zq_96_5) (zm_okl1 zd_96_6 zq_96_6)) (zm_okl2 (zm_okl1 zd_96_7 zq_96_7) (zm_okl2 (zm_okl1 zd_96_8 zq_96_8) (zm_okl1 zd_96_9 zq_96_9))))
theorem zm_ga97 : ∀ pc q, zm_g97 pc = some q → zm_oke 97 pc q := zm_okl2 (zm_okl1 zd_97_0 zq_97_0) (zm_okl2 (zm_okl1 zd_97_1 zq_97_1) (zm_okl1 zd_97_2 zq_97_2))
theorem zm_ga98 : ∀ pc q, zm_g98 pc = some q → zm_oke 98 pc q := zm_okl2 (zm_okl2 (zm_okl2 (zm_okl1 zd_98_0 zq_98_0) (zm_okl1 zd_98_1 zq_98_1)) (zm_okl2 (zm_okl1 zd_98_2 zq_98_2) (zm_okl1 zd_98_3 zq_98_3))) (zm_okl2 (zm_okl2 (zm_okl1 zd_98_4 zq_98_4) (zm_okl1 zd_98_5 zq_98_5)) (zm_okl2 (zm_okl1 zd_98_6 zq_98_6) (zm_okl1 zd_98_7 zq_98_7)))
theorem zm_ga99 : ∀ pc q, zm_g99 pc = some q → zm_oke 99 pc q := zm_okl2 (zm_okl2 (zm_okl1 zd_99_0 zq_99_0) (zm_okl1 zd_99_1 zq_99_1)) (zm_okl2 (zm_okl1 zd_99_2 zq_99_2) (zm_okl2 (zm_okl1 zd_99_3 zq_99_3) (zm_okl1 zd_99_4 zq_99_4)))
theorem zm_ga100 : ∀ pc q, zm_g100 pc = some q → zm_oke 100 pc q := zm_okl2 (zm_okl2 (zm_okl1 zd_100_0 zq_100_0) (zm_okl1 zd_100_1 zq_100_1)) (zm_okl2 (zm_okl1 zd_100_2 zq_100_2) (zm_okl2 (zm_okl1 zd_100_3 zq_100_3) (zm_okl1 zd_100_4 zq_100_4)))
theorem zm_ga101 : ∀ pc q, zm_g101 pc = some q → zm_oke 101 pc q := zm_okl2 (zm_okl2 (zm_okl1 zd_101_0 zq_101_0) (zm_okl1 zd_101_1 zq_101_1)) (zm_okl2 (zm_okl1 zd_101_2 zq_101_2) (zm_okl1 zd_101_3 zq_101_3))
theorem zm_ga102 : ∀ pc q, zm_g102 pc = some q → zm_oke 102 pc q := zm_okl2 (zm_okl1 zd_102_0 zq_102_0) (zm_okl1 zd_102_1 zq_102_1)
theorem zm_ga103 : ∀ pc q, zm_g103 pc = some q → zm_oke 103 pc q := zm_okl2 (zm_okl2 (zm_okl2 (zm_okl2 (zm_okl1 zd_103_0 zq_103_0) (zm_okl1 zd_103_1 zq_103_1)) (zm_okl2 (zm_okl1 zd_103_2 zq_103_2) (zm_okl2 (zm_okl1 zd_103_3 zq_103_3) (zm_okl1 zd_103_4 zq_103_4)))) (zm_okl2 (zm_okl2 (zm_okl1 zd_103_5 zq_103_5) (zm_okl2 (zm_okl1 zd_103_6 zq_103_6) (zm_okl1 zd_103_7 zq_103_7))) (zm_okl2 (zm_okl1 zd_103_8 zq_103_8) (zm_okl2 (zm_okl1 zd_103_9 zq_103_9) (zm_okl1 zd_103_10 zq_103_10))))) (zm_okl2 (zm_okl2 (zm_okl2 (zm_okl1 zd_103_11 zq_103_11) (zm_okl1 zd_103_12 zq_103_12)) (zm_okl2 (zm_okl1 zd_103_13 zq_103_13) (zm_okl2 (zm_okl1 zd_103_14 zq_103_14) (zm_okl1 zd_103_15 zq_103_15)))) (zm_okl2 (zm_okl2 (zm_okl1 zd_103_16 zq_103_16) (zm_okl2 (zm_okl1 zd_103_17 zq_103_17) (zm_okl1 zd_103_18 zq_103_18))) (zm_okl2 (zm_okl1 zd_103_19 zq_103_19) (zm_okl2 (zm_okl1 zd_103_20 zq_103_20) (zm_okl1 zd_103_21 zq_103_21)))))
theorem zm_ga104 : ∀ pc q, zm_g104 pc = some q → zm_oke 104 pc q := zm_okl2 (zm_okl1 zd_104_0 zq_104_0) (zm_okl1 zd_104_1 zq_104_1)
theorem zm_ga105 : ∀ pc q, zm_g105 pc = some q → zm_oke 105 pc q := zm_okl2 (zm_okl2 (zm_okl1 zd_105_0 zq_105_0) (zm_okl1 zd_105_1 zq_105_1)) (zm_okl2 (zm_okl1 zd_105_2 zq_105_2) (zm_okl1 zd_105_3 zq_105_3))
theorem zm_ga106 : ∀ pc q, zm_g106 pc = some q → zm_oke 106 pc q := zm_okl2 (zm_okl2 (zm_okl2 (zm_okl1 zd_106_0 zq_106_0) (zm_okl1 zd_106_1 zq_106_1)) (zm_okl2 (zm_okl1 zd_106_2 zq_106_2) (zm_okl1 zd_106_3 zq_106_3))) (zm_okl2 (zm_okl2 (zm_okl1 zd_106_4 zq_106_4) (zm_okl1 zd_106_5 zq_106_5)) (zm_okl2 (zm_okl1 zd_106_6 zq_106_6) (zm_okl1 zd_106_7 zq_106_7)))
theorem zm_ga107 : ∀ pc q, zm_g107 pc = some q → zm_oke 107 pc q := zm_okl1 zd_107_0 zq_107_0
theorem zm_ga108 : ∀ pc q, zm_g108 pc = some q → zm_oke 108 pc q := zm_okl2 (zm_okl1 zd_108_0 zq_108_0) (zm_okl1 zd_108_1 zq_108_1)
theorem zm_ga109 : ∀ pc q, zm_g109 pc = some q → zm_oke 109 pc q := zm_okl1 zd_109_0 zq_109_0
theorem zm_ga110 : ∀ pc q, zm_g110 pc = some q → zm_oke 110 pc q := zm_okl2 (zm_okl1 zd_110_0 zq_110_0) (zm_okl2 (zm_okl1 zd_110_1 zq_110_1) (zm_okl1 zd_110_2 zq_110_2))
theorem zm_ga111 : ∀ pc q, zm_g111 pc = some q → zm_oke 111 pc q := zm_okl2 (zm_okl1 zd_111_0 zq_111_0) (zm_okl2 (zm_okl1 zd_111_1 zq_111_1) (zm_okl1 zd_111_2 zq_111_2))
theorem zm_ga112 : ∀ pc q, zm_g112 pc = some q → zm_oke 112 pc q := zm_okl2 (zm_okl1 zd_112_0 zq_112_0) (zm_okl1 zd_112_1 zq_112_1)
theorem zm_ga113 : ∀ pc q, zm_g113 pc = some q → zm_oke 113 pc q := zm_okl2 (zm_okl2 (zm_okl1 zd_113_0 zq_113_0) (zm_okl2 (zm_okl1 zd_113_1 zq_113_1) (zm_okl1 zd_113_2 zq_113_2))) (zm_okl2 (zm_okl1 zd_113_3 zq_113_3) (zm_okl2 (zm_okl1 zd_113_4 zq_113_4) (zm_okl1 zd_113_5 zq_113_5)))
theorem zm_ga114 : ∀ pc q, zm_g114 pc = some q → zm_oke 114 pc q := zm_okl1 zd_114_0 zq_114_0
theorem zm_ga115 : ∀ pc q, zm_g115 pc = some q → zm_oke 115 pc q := zm_okl2 (zm_okl1 zd_115_0 zq_115_0) (zm_okl1 zd_115_1 zq_115_1)
theorem zm_ga116 : ∀ pc q, zm_g116 pc = some q → zm_oke 116 pc q := zm_okl2 (zm_okl1 zd_116_0 zq_116_0) (zm_okl2 (zm_okl1 zd_116_1 zq_116_1) (zm_okl1 zd_116_2 zq_116_2))
theorem zm_ga117 : ∀ pc q, zm_g117 pc = some q → zm_oke 117 pc q := zm_okl1 zd_117_0 zq_117_0
theorem zm_ga118 : ∀ pc q, zm_g118 pc = some q → zm_oke 118 pc q := zm_okl2 (zm_okl2 (zm_okl1 zd_118_0 zq_118_0) (zm_okl1 zd_118_1 zq_118_1)) (zm_okl2 (zm_okl1 zd_118_2 zq_118_2) (zm_okl1 zd_118_3 zq_118_3))
theorem zm_all : ∀ mi pc q, zm_cd mi pc = some q → zm_oke mi pc q := zm_okl4 (zm_okl4 (zm_okl4 (zm_okl4 (zm_okl4 (zm_okl4 (zm_okl3 zm_ga0) (zm_okl4 (zm_okl3 zm_ga1) (zm_okl3 zm_ga2))) (zm_okl4 (zm_okl4 (zm_okl3 zm_ga3) (zm_okl3 zm_ga4)) (zm_okl4 (zm_okl3 zm_ga5) (zm_okl3 zm_ga6)))) (zm_okl4 (zm_okl4 (zm_okl3 zm_ga7) (zm_okl4 (zm_okl3 zm_ga8) (zm_okl3 zm_ga9))) (zm_okl4 (zm_okl4 (zm_okl3 zm_ga10) (zm_okl3 zm_ga11)) (zm_okl4 (zm_okl3 zm_ga12) (zm_okl3 zm_ga13))))) (zm_okl4 (zm_okl4 (zm_okl4 (zm_okl3 zm_ga14) (zm_okl4 (zm_okl3 zm_ga15) (zm_okl3 zm_ga16))) (zm_okl4 (zm_okl4 (zm_okl3 zm_ga17) (zm_okl3 zm_ga18)) (zm_okl4 (zm_okl3 zm_ga19) (zm_okl3 zm_ga20)))) (zm_okl4 (zm_okl4 (zm_okl4 (zm_okl3 zm_ga21) (zm_okl3 zm_ga22)) (zm_okl4 (zm_okl3 zm_ga23) (zm_okl3 zm_ga24))) (zm_okl4 (zm_okl4 (zm_okl3 zm_ga25) (zm_okl3 zm_ga26)) (zm_okl4 (zm_okl3 zm_ga27) (zm_okl3 zm_ga28)))))) (zm_okl4 (zm_okl4 (zm_okl4 (zm_okl4 (zm_okl3 zm_ga29) (zm_okl4 (zm_okl3 zm_ga30) (zm_okl3 zm_ga31))) (zm_okl4 (zm_okl4 (zm_okl3 zm_ga32) (zm_okl3 zm_ga33)) (zm_okl4 (zm_okl3 zm_ga34) (zm_okl3 zm_ga35)))) (zm_okl4 (zm_okl4 (zm_okl4 (zm_okl3 zm_ga36) (zm_okl3 zm_ga37)) (zm_okl4 (zm_okl3 zm_ga38) (zm_okl3 zm_ga39))) (zm_okl4 (zm_okl4 (zm_okl3 zm_ga40) (zm_okl3 zm_ga41)) (zm_okl4 (zm_okl3 zm_ga42) (zm_okl3 zm_ga43))))) (zm_okl4 (zm_okl4 (zm_okl4 (zm_okl3 zm_ga44) (zm_okl4 (zm_okl3 zm_ga45) (zm_okl3 zm_ga46))) (zm_okl4 (zm_okl4 (zm_okl3 zm_ga47) (zm_okl3 zm_ga48)) (zm_okl4 (zm_okl3 zm_ga49) (zm_okl3 zm_ga50)))) (zm_okl4 (zm_okl4 (zm_okl4 (zm_okl3 zm_ga51) (zm_okl3 zm_ga52)) (zm_okl4 (zm_okl3 zm_ga53) (zm_okl3 zm_ga54))) (zm_okl4 (zm_okl4 (zm_okl3 zm_ga55) (zm_okl3 zm_ga56)) (zm_okl4 (zm_okl3 zm_ga57) (zm_okl3 zm_ga58))))))) (zm_okl4 (zm_okl4 (zm_okl4 (zm_okl4 (zm_okl4 (zm_okl3 zm_ga59) (zm_okl4 (zm_okl3 zm_ga60) (zm_okl3 zm_ga61))) (zm_okl4 (zm_okl4 (zm_okl3 zm_ga62) (zm_okl3 zm_ga63)) (zm_okl4 (zm_okl3 zm_ga64) (zm_okl3 zm_ga65)))) (zm_okl4 (zm_okl4 (zm_okl4 (zm_okl3 zm_ga66) (zm_okl3 zm_ga67)) (zm_okl4 (zm_okl3 zm_ga68) (zm_okl3 zm_ga69))) (zm_okl4 (zm_okl4 (zm_okl3 zm_ga70) (zm_okl3 zm_ga71)) (zm_okl4 (zm_okl3 zm_ga72) (zm_okl3 zm_ga73))))) (zm_okl4 (zm_okl4 (zm_okl4 (zm_okl3 zm_ga74) (zm_okl4 (zm_okl3 zm_ga75) (zm_okl3 zm_ga76))) (zm_okl4 (zm_okl4 (zm_okl3 zm_ga77) (zm_okl3 zm_ga78)) (zm_okl4 (zm_okl3 zm_ga79) (zm_okl3 zm_ga80)))) (zm_okl4 (zm_okl4 (zm_okl4 (zm_okl3 zm_ga81) (zm_okl3 zm_ga82)) (zm_okl4 (zm_okl3 zm_ga83) (zm_okl3 zm_ga84))) (zm_okl4 (zm_okl4 (zm_okl3 zm_ga85) (zm_okl3 zm_ga86)) (zm_okl4 (zm_okl3 zm_ga87) (zm_okl3 zm_ga88)))))) (zm_okl4 (zm_okl4 (zm_okl4 (zm_okl4 (zm_okl3 zm_ga89) (zm_okl4 (zm_okl3 zm_ga90) (zm_okl3 zm_ga91))) (zm_okl4 (zm_okl4 (zm_okl3 zm_ga92) (zm_okl3 zm_ga93)) (zm_okl4 (zm_okl3 zm_ga94) (zm_okl3 zm_ga95)))) (zm_okl4 (zm_okl4 (zm_okl4 (zm_okl3 zm_ga96) (zm_okl3 zm_ga97)) (zm_okl4 (zm_okl3 zm_ga98) (zm_okl3 zm_ga99))) (zm_okl4 (zm_okl4 (zm_okl3 zm_ga100) (zm_okl3 zm_ga101)) (zm_okl4 (zm_okl3 zm_ga102) (zm_okl3 zm_ga103))))) (zm_okl4 (zm_okl4 (zm_okl4 (zm_okl3 zm_ga104) (zm_okl4 (zm_okl3 zm_ga105) (zm_okl3 zm_ga106))) (zm_okl4 (zm_okl4 (zm_okl3 zm_ga107) (zm_okl3 zm_ga108)) (zm_okl4 (zm_okl3 zm_ga109) (zm_okl3 zm_ga110)))) (zm_okl4 (zm_okl4 (zm_okl4 (zm_okl3 zm_ga111) (zm_okl3 zm_ga112)) (zm_okl4 (zm_okl3 zm_ga113) (zm_okl3 zm_ga114))) (zm_okl4 (zm_okl4 (zm_okl3 zm_ga115) (zm_okl3 zm_ga116)) (zm_okl4 (zm_okl3 zm_ga117) (zm_okl3 zm_ga118)))))))
theorem zm_T : zm_okt := ⟨zm_all, by
  intro q hq C hC
  rcases List.mem_cons.mp hq with h | h
  · subst h
    cases Option.some.inj (show some (FieldType.object "NeedMachine$Definition") = some (.object C) from hC)
    exact ⟨_, _, _, rfl, Or.inl rfl⟩
  rcases List.mem_cons.mp h with h | h
  · subst h
    cases Option.some.inj (show some (FieldType.object "java/lang/Object") = some (.object C) from hC)
    exact ⟨_, _, _, rfl, Or.inr zj_CASTV⟩
  rcases List.mem_cons.mp h with h | h
  · subst h
    cases Option.some.inj (show some (FieldType.object "java/lang/Object") = some (.object C) from hC)
    exact ⟨_, _, _, rfl, Or.inr zj_CASTC⟩
  · rw [List.mem_singleton.mp h] at hC ⊢
    cases Option.some.inj (show some (FieldType.object "java/lang/Object") = some (.object C) from hC)
    exact ⟨_, _, _, rfl, Or.inr zj_CASTA⟩⟩
end
section
/-! THE LAW's START: the bundle N of the small machine -/
theorem zm_clk : ∀ q ∈ zm_cl, (∀ w ∈ u_ws q.1 q.2.1 q.2.2, w ∈ zm_tb) ∧ ∃ n, Cond.instantiable q.1 n ∈ zm_tb := List.forall_mem_cons.mpr ⟨⟨zm_f0.1, _, zw_28⟩, List.forall_mem_cons.mpr ⟨⟨zm_f1.1, _, zw_36⟩, List.forall_mem_cons.mpr ⟨⟨zm_f2.1, _, zw_70⟩, List.forall_mem_cons.mpr ⟨⟨zm_f3.1, _, zw_76⟩, List.forall_mem_cons.mpr ⟨⟨zm_f4.1, _, zw_103⟩, List.forall_mem_cons.mpr ⟨⟨zm_f5.1, _, zw_715⟩, List.forall_mem_cons.mpr ⟨⟨zm_f6.1, _, zw_327⟩, List.forall_mem_cons.mpr ⟨⟨zm_f7.1, _, zw_355⟩, List.forall_mem_cons.mpr ⟨⟨zm_f8.1, _, zw_566⟩, List.forall_mem_cons.mpr ⟨⟨zm_f9.1, _, zw_617⟩, fun _ h => absurd h List.not_mem_nil⟩⟩⟩⟩⟩⟩⟩⟩⟩⟩
theorem zm_arO {A : Array Value} {s : State} {C : String} (h : (Cond.arrayOver (.object C)).before A s = true) : ∃ cA : ClassId, ArrOfT s cA (.object C) ∧ va_RA s cA (.object C) := by
  obtain ⟨comp, c, k, h1, h2, h3, h4, h5⟩ := Cond.arrayOver_spec h
  exact ⟨c, fun n z => ⟨fun k h => (by cases h), k, h3, comp, h4⟩, k, comp, h3, h4, h1, h5⟩
theorem zm_arP {A : Array Value} {s : State} {ty : FieldType} (h : (Cond.arrayClass ty).before A s = true) : ∃ cA : ClassId, ArrOfT s cA ty ∧ s.vm.findClass ("[" ++ ty.toString) = some cA := by
  obtain ⟨c, k, comp, h1, h2, h3⟩ := Cond.arrayClass_spec h
  exact ⟨c, fun n z => ⟨fun k h => (by cases h), k, h2, comp, h3⟩, h1⟩
theorem zm_arrRef {A : Array Value} {s : State} {t : Term} {ty : FieldType} (h : (Cond.arrayOf t ty).before A s = true) : ∃ a : Nat, t.eval A s none [] s = some (.ref a) ∧ a < s.heap.size := by
  simp only [Cond.before, Cond.holds, Cond.value] at h
  split at h
  · simp at h
  · split at h
    · rename_i a ha
      refine ⟨a, ha, ?_⟩
      cases hc : s.heap[a]? with
      | none => rw [hc] at h; simp at h
      | some cell => exact (Array.getElem?_eq_some_iff.mp hc).1
    · simp at h
    · simp at h
theorem zm_arrRef2 {A : Array Value} {s : State} {t : Term} {ty : FieldType} {a : Nat} (h : (Cond.arrayOf t ty).before A s = true) (h0 : (Cond.eq (.length t) (.int 0)).before A s = true) (ha : t.eval A s none [] s = some (.ref a)) : ∃ cell : Cell, s.heap[a]? = some cell ∧ s.isArrayOf cell ty ∧ cell.vm ≠ .unknown ∧ cell.slots.size = 0 := by
  obtain ⟨a', ha', hl⟩ := zm_arrRef h
  cases Option.some.inj (ha.symm.trans ha')
  have hc : s.heap[a]? = some s.heap[a] := Array.getElem?_eq_getElem hl
  obtain ⟨h1, h2⟩ := Cond.arrayOf_spec h ha hc
  refine ⟨_, hc, h1, h2, ?_⟩
  obtain ⟨y, k1, k2⟩ := Cond.eq_one h0
  cases k2
  have harr : s.arrayAt? a = some s.heap[a] := by
    obtain ⟨g1, k, g2, comp, g3⟩ := h1
    have hst : (s.heap[a]).vm.isStatics = false := by cases hv : (s.heap[a]).vm <;> first | rfl | exact absurd hv (g1 _)
    simp [State.arrayAt?, hc, g2, g3, h2, hst]
  by_cases hs : (s.heap[a]).slots.size < 2147483648
  · have e : (s.heap[a]).slots.size.toInt32 = 0 := by simpa [Term.eval, ha, harr, hs] using k1
    have h1 := nI_clamp (n := (s.heap[a]).slots.size) (by omega)
    rw [show nI (s.heap[a]).slots.size = 0 from e] at h1
    exact h1.symm.trans (by decide)
  · simp [Term.eval, ha, harr, hs] at k1
def zm_G0h (L : Nat) (xs : Nat → Int32) : zm_H := ([.inl (0, L, .inl xs), .inl (5, 0, .inr (.inr (.inr (.inr fun _ => none))))], 0)
set_option maxHeartbeats 1000000 in
theorem zm_start {s : State} {b L : Nat} {xs : Nat → Int32} (l : Launch) (hlt : l.stackTraces = false) (hts : ∀ w ∈ lw_tbl, w.before #[Value.ref b] s = true) (hX : va_X b L xs s s.heap) (hbl : b < s.heap.size) (hgv : (Jvm.Cond.and given_1 narrow_1).before #[Value.ref b] s = true) :
    ∃ N : zm_N, N.l = l ∧ N.s0 = s ∧ N.ad 0 = b ∧ zm_Rp N (zm_G0h L xs) s.heap := by
  have hex : ∀ w ∈ zm_ex, w.before #[Value.ref b] s = true := fun w hw => flat_of_before _ hgv w ((by decide +kernel : ∀ w ∈ zm_ex, w ∈ flatC (Jvm.Cond.and given_1 narrow_1)) w hw)
  have htb : ∀ w ∈ zm_tb, w.before #[Value.ref b] s = true := fun w hw => (List.mem_append.mp hw).elim (hts w) (hex w)
  have hcl : ∀ k : Nat, ∃ (cC : ClassId) (iS : Nat → Nat), ∀ q : vw_C, zm_cl[k]? = some q → u_Kn s q.1 q.2.1 q.2.2 cC iS := by
    intro k
    cases h : zm_cl[k]? with
    | none => exact ⟨0, fun _ => 0, fun q hq => by cases hq⟩
    | some q =>
      obtain ⟨h1, n, h2⟩ := zm_clk q (List.mem_of_getElem? h)
      obtain ⟨cC, iS, hk⟩ := u_known htb h1 (htb _ h2)
      exact ⟨cC, iS, fun q' hq' => by cases hq'; exact hk⟩
  have har : ∀ t : Nat, ∃ cA : ClassId, ∀ ty : FieldType, zm_aty[t]? = some ty → ArrOfT s cA ty ∧ va_RA s cA ty := by
    intro t
    match t with
    | 0 => obtain ⟨cA, h1, h2⟩ := zm_arP (htb _ zw_853); exact ⟨cA, fun ty h => by cases Option.some.inj (show some FieldType.int = some ty from h); exact ⟨h1, h2⟩⟩
    | 1 => obtain ⟨cA, h1, h2⟩ := zm_arP (htb _ zw_68); exact ⟨cA, fun ty h => by cases Option.some.inj (show some FieldType.char = some ty from h); exact ⟨h1, h2⟩⟩
    | 2 => obtain ⟨cA, h1, h2⟩ := zm_arP (htb _ zw_998); exact ⟨cA, fun ty h => by cases Option.some.inj (show some FieldType.long = some ty from h); exact ⟨h1, h2⟩⟩
    | 3 => obtain ⟨cA, h1, h2⟩ := zm_arP (htb _ zw_854); exact ⟨cA, fun ty h => by cases Option.some.inj (show some FieldType.boolean = some ty from h); exact ⟨h1, h2⟩⟩
    | 4 => obtain ⟨cA, h1, h2⟩ := zm_arO (htb _ zw_152); exact ⟨cA, fun ty h => by cases Option.some.inj (show some (FieldType.object "NeedMachine$Definition") = some ty from h); exact ⟨h1, h2⟩⟩
    | 5 => obtain ⟨cA, h1, h2⟩ := zm_arO (htb _ (by decide +kernel : Cond.arrayOver (.object "java/lang/Object") ∈ zm_tb)); exact ⟨cA, fun ty h => by cases Option.some.inj (show some (FieldType.object "java/lang/Object") = some ty from h); exact ⟨h1, h2⟩⟩
    | t + 6 => exact ⟨0, fun ty h => by cases (show none = some ty from h)⟩
  have hda : (Cond.arrayOf (.static "java/util/ArrayList" "DEFAULTCAPACITY_EMPTY_ELEMENTDATA" "[Ljava/lang/Object;") (.object "java/lang/Object")).before #[Value.ref b] s = true := flat_of_before _ hgv _ (by decide +kernel)
  obtain ⟨t, ht, htl⟩ := zm_arrRef hda
  have hZ : va_Z "java/util/ArrayList" "DEFAULTCAPACITY_EMPTY_ELEMENTDATA" "[Ljava/lang/Object;" (.ref t) (fun a => s.heap.size ≤ a) s s.heap := va_Zref (htb _ (by decide +kernel : Cond.laysStatic "java/util/ArrayList" "DEFAULTCAPACITY_EMPTY_ELEMENTDATA" "[Ljava/lang/Object;" ∈ zm_tb)) (htb _ (by decide +kernel : Cond.initialized "java/util/ArrayList" ∈ zm_tb)) ht (fun a ha => Nat.not_le.mpr ha)
  refine ⟨⟨(l, s, (fun k => Classical.choose (hcl k), fun k => Classical.choose (Classical.choose_spec (hcl k))), fun k => Classical.choose (har k), fun k => if k = 0 then b else t), ⟨_, htb⟩, ⟨fun c q hq => Classical.choose_spec (Classical.choose_spec (hcl c)) q hq, fun k ty hk => Classical.choose_spec (har k) ty hk⟩, hlt, ?_, ?_⟩, rfl, rfl, rfl, ?_, ?_, ?_, ?_⟩
  · intro k hk
    show (if k = 0 then b else t) < s.heap.size
    split
    · exact hbl
    · exact htl
  · intro q hq
    rw [List.mem_singleton.mp hq]
    exact ⟨by decide, hZ⟩
  · rfl
  · exact Nat.le_refl 2
  · intro k x hk
    match k with
    | 0 =>
      cases Option.some.inj (show some (Sum.inl (0, L, .inl xs) : zm_E) = some x from hk)
      obtain ⟨scr, h1, h2, h3, h4, h5⟩ := hX
      exact ⟨fun z => absurd z (by decide), scr, .int, rfl, h1, h2, h3, h4, fun j hj => h5 j hj⟩
    | 1 =>
      cases Option.some.inj (show some (Sum.inl (5, 0, .inr (.inr (.inr (.inr fun _ => none)))) : zm_E) = some x from hk)
      obtain ⟨cell, h1, h2, h3, h4⟩ := zm_arrRef2 hda (flat_of_before _ hgv _ (by decide +kernel)) ht
      exact ⟨fun z => absurd z (by decide), cell, .object "java/lang/Object", rfl, h1, h2, h3, h4, fun j hj => absurd hj (Nat.not_lt_zero j)⟩
    | k + 2 => cases (show none = some x from hk)
  · intro q hq
    rfl
end
section
/-! A RUN OF A GIVEN SCRIPT IN ONE FUNCTION: the small machine with its calls, throws and catches; what it answers is what zm_J says. Laid by wip/gen/refute.py -/
abbrev zq_E : Type := Nat × Nat × Nat × Nat × Nat × Nat × Nat
/-- a row: method, pc, kind (0 static, 1 constructor, 2 virtual, 3 Object's constructor, 4 a throw), index, what is called or thrown, how many arguments, the receiver's kind -/
def zq_P (e : zq_E) : Prop :=
  (e.2.2.1 = 0 → decode (zm_by e.1) e.2.1 = .ok (.invokestatic e.2.2.2.1, 3) ∧ zm_okS e.1 e.2.2.2.1 e.2.2.2.2.1 e.2.2.2.2.2.1) ∧
  (e.2.2.1 = 1 → decode (zm_by e.1) e.2.1 = .ok (.invokespecial e.2.2.2.1, 3) ∧ zm_okI e.1 e.2.2.2.1 e.2.2.2.2.1 e.2.2.2.2.2.1) ∧
  (e.2.2.1 = 2 → decode (zm_by e.1) e.2.1 = .ok (.invokevirtual e.2.2.2.1, 3) ∧ zm_okV e.1 e.2.2.2.1 e.2.2.2.2.1 e.2.2.2.2.2.1 e.2.2.2.2.2.2) ∧
  (e.2.2.1 = 3 → decode (zm_by e.1) e.2.1 = .ok (.invokespecial e.2.2.2.1, 3) ∧ zm_okO e.1 e.2.2.2.1) ∧
  (e.2.2.1 = 4 → zm_okx e.1 e.2.1 e.2.2.2.2.1)
section ZQ0
variable {mi pc idx mj n x : Nat}
theorem zq_P0 (h1 : decode (zm_by mi) pc = .ok (.invokestatic idx, 3)) (h2 : zm_okS mi idx mj n) : zq_P (mi, pc, 0, idx, mj, n, x) :=
  ⟨fun _ => ⟨h1, h2⟩, fun h => absurd (show (0 : Nat) = 1 from h) (by decide), fun h => absurd (show (0 : Nat) = 2 from h) (by decide), fun h => absurd (show (0 : Nat) = 3 from h) (by decide), fun h => absurd (show (0 : Nat) = 4 from h) (by decide)⟩
theorem zq_P1 (h1 : decode (zm_by mi) pc = .ok (.invokespecial idx, 3)) (h2 : zm_okI mi idx mj n) : zq_P (mi, pc, 1, idx, mj, n, x) :=
  ⟨fun h => absurd (show (1 : Nat) = 0 from h) (by decide), fun _ => ⟨h1, h2⟩, fun h => absurd (show (1 : Nat) = 2 from h) (by decide), fun h => absurd (show (1 : Nat) = 3 from h) (by decide), fun h => absurd (show (1 : Nat) = 4 from h) (by decide)⟩
theorem zq_P2 (h1 : decode (zm_by mi) pc = .ok (.invokevirtual idx, 3)) (h2 : zm_okV mi idx mj n x) : zq_P (mi, pc, 2, idx, mj, n, x) :=
  ⟨fun h => absurd (show (2 : Nat) = 0 from h) (by decide), fun h => absurd (show (2 : Nat) = 1 from h) (by decide), fun _ => ⟨h1, h2⟩, fun h => absurd (show (2 : Nat) = 3 from h) (by decide), fun h => absurd (show (2 : Nat) = 4 from h) (by decide)⟩
theorem zq_P3 (h1 : decode (zm_by mi) pc = .ok (.invokespecial idx, 3)) (h2 : zm_okO mi idx) : zq_P (mi, pc, 3, idx, mj, n, x) :=
  ⟨fun h => absurd (show (3 : Nat) = 0 from h) (by decide), fun h => absurd (show (3 : Nat) = 1 from h) (by decide), fun h => absurd (show (3 : Nat) = 2 from h) (by decide), fun _ => ⟨h1, h2⟩, fun h => absurd (show (3 : Nat) = 4 from h) (by decide)⟩
theorem zq_P4 (h1 : zm_okx mi pc mj) : zq_P (mi, pc, 4, idx, mj, n, x) :=
  ⟨fun h => absurd (show (4 : Nat) = 0 from h) (by decide), fun h => absurd (show (4 : Nat) = 1 from h) (by decide), fun h => absurd (show (4 : Nat) = 2 from h) (by decide), fun h => absurd (show (4 : Nat) = 3 from h) (by decide), fun _ => h1⟩
end ZQ0
def zq_fd (mi pc : Nat) : List zq_E → Option zq_E
  | [] => none
  | e :: r => cond (Nat.beq e.1 mi && Nat.beq e.2.1 pc) (some e) (zq_fd mi pc r)
theorem zq_fd_ok {mi pc : Nat} {e : zq_E} {L : List zq_E} (h : zq_fd mi pc L = some e) : e ∈ L ∧ e.1 = mi ∧ e.2.1 = pc := by
  induction L with
  | nil => cases h
  | cons y r ih =>
    have h' : cond (Nat.beq y.1 mi && Nat.beq y.2.1 pc) (some y) (zq_fd mi pc r) = some e := h
    cases hc : (Nat.beq y.1 mi && Nat.beq y.2.1 pc) with
    | true =>
      rw [hc] at h'
      have h2 : some y = some e := h'
      cases Option.some.inj h2
      rw [Bool.and_eq_true] at hc
      exact ⟨List.mem_cons_self, Nat.eq_of_beq_eq_true hc.1, Nat.eq_of_beq_eq_true hc.2⟩
    | false =>
      rw [hc] at h'
      obtain ⟨h1, h2⟩ := ih h'
      exact ⟨List.mem_cons_of_mem _ h1, h2⟩
def zq_fc (mi pc xk : Nat) : List (Nat × Nat × Nat × Nat) → Option Nat
  | [] => none
  | e :: r => cond (Nat.beq e.1 mi && (Nat.beq e.2.1 pc && Nat.beq e.2.2.1 xk)) (some e.2.2.2) (zq_fc mi pc xk r)
theorem zq_fc_ok {mi pc xk h : Nat} {L : List (Nat × Nat × Nat × Nat)} (hL : ∀ e ∈ L, zm_cat e.1 e.2.1 e.2.2.1 e.2.2.2) (hf : zq_fc mi pc xk L = some h) : zm_cat mi pc xk h := by
  induction L with
  | nil => cases hf
  | cons y r ih =>
    have h' : cond (Nat.beq y.1 mi && (Nat.beq y.2.1 pc && Nat.beq y.2.2.1 xk)) (some y.2.2.2) (zq_fc mi pc xk r) = some h := hf
    cases hc : (Nat.beq y.1 mi && (Nat.beq y.2.1 pc && Nat.beq y.2.2.1 xk)) with
    | true =>
      rw [hc] at h'
      have h2 : some y.2.2.2 = some h := h'
      have hy := hL y List.mem_cons_self
      rw [Bool.and_eq_true, Bool.and_eq_true] at hc
      rw [Nat.eq_of_beq_eq_true hc.1, Nat.eq_of_beq_eq_true hc.2.1, Nat.eq_of_beq_eq_true hc.2.2, Option.some.inj h2] at hy
      exact hy
    | false =>
      rw [hc] at h'
      exact ih (fun e he => hL e (List.mem_cons_of_mem _ he)) h'
theorem zq_cond {α : Type} {b : Bool} {x y : α} (h : cond b (some x) none = some y) : b = true ∧ x = y := by
  cases b with
  | true => exact ⟨rfl, Option.some.inj h⟩
  | false => cases h
def zq_sum (r : List Value) : Nat := (r.map fun v => v.category).sum
def zq_chk (av r : List Value) (mj : Nat) (G : zm_H) : Bool := Nat.ble (zq_sum r + (zm_nl mj + 11)) zm_w && (Nat.ble (lg_sl av).length (zm_nl mj) && (Nat.ble G.1.length zm_C && Nat.ble G.2 zm_S))
theorem zq_chk_ok {av r : List Value} {mj : Nat} {G : zm_H} (h : zq_chk av r mj G = true) : (r.map fun v => v.category).sum + (zm_nl mj + 11) ≤ zm_w ∧ (lg_sl av).length ≤ zm_nl mj ∧ G.1.length ≤ zm_C ∧ G.2 ≤ zm_S := by
  unfold zq_chk at h
  rw [Bool.and_eq_true, Bool.and_eq_true, Bool.and_eq_true] at h
  exact ⟨Nat.le_of_ble_eq_true h.1, Nat.le_of_ble_eq_true h.2.1, Nat.le_of_ble_eq_true h.2.2.1, Nat.le_of_ble_eq_true h.2.2.2⟩
/-- Object's constructor: what is left on the stack -/
def zq_o (e : zq_E) (d : Nat) (st : List Value) : Option (List Value) := match st with
  | .ref _ :: r => cond (Nat.beq e.2.2.1 3 && (Nat.ble 1 d && Nat.ble (zq_sum r + 12) zm_w)) (some r) none
  | _ => none
/-- a throw -/
def zq_t (e : zq_E) (d : Nat) (st : List Value) (G : zm_H) : Option (zm_O × zm_H) :=
  cond (Nat.beq e.2.2.1 4 && (Nat.ble 7 d && (Nat.ble (zq_sum st + 95) (zm_w * 7) && zm_room G 6))) (some (.inr (e.2.2.2.2.1, G.1.length), zm_new G (.inr (zm_cl.length, [])) 6)) none
/-- a call: its arguments, what is left on the stack -/
def zq_pS (e : zq_E) (st : List Value) (G : zm_H) : Option (List Value × List Value) :=
  cond (Nat.beq e.2.2.1 0 && (Nat.ble e.2.2.2.2.2.1 st.length && zq_chk (st.take e.2.2.2.2.2.1).reverse (st.drop e.2.2.2.2.2.1) e.2.2.2.2.1 G)) (some ((st.take e.2.2.2.2.2.1).reverse, st.drop e.2.2.2.2.2.1)) none
def zq_pI (e : zq_E) (st : List Value) (G : zm_H) : Option (List Value × List Value) := match st.drop e.2.2.2.2.2.1 with
  | .ref a :: r => cond (Nat.beq e.2.2.1 1 && (Nat.ble e.2.2.2.2.2.1 st.length && zq_chk (.ref a :: (st.take e.2.2.2.2.2.1).reverse) r e.2.2.2.2.1 G)) (some (.ref a :: (st.take e.2.2.2.2.2.1).reverse, r)) none
  | _ => none
def zq_pV (e : zq_E) (st : List Value) (G : zm_H) : Option (List Value × List Value) := match st.drop e.2.2.2.2.2.1 with
  | .ref a :: r => match G.1[a]? with
    | some (.inr y) => cond (Nat.beq e.2.2.1 2 && (Nat.beq y.1 e.2.2.2.2.2.2 && (Nat.ble e.2.2.2.2.2.1 st.length && zq_chk (.ref a :: (st.take e.2.2.2.2.2.1).reverse) r e.2.2.2.2.1 G))) (some (.ref a :: (st.take e.2.2.2.2.2.1).reverse, r)) none
    | _ => none
  | _ => none
def zq_pl (e : zq_E) (d : Nat) (st : List Value) (G : zm_H) : Option (List Value × List Value) :=
  cond (Nat.ble 1 d) (cond (Nat.beq e.2.2.1 0) (zq_pS e st G) (cond (Nat.beq e.2.2.1 1) (zq_pI e st G) (zq_pV e st G))) none
/-- a return -/
def zq_rt (mi pc : Nat) (st : List Value) (G : zm_H) : Option (zm_O × zm_H) := match zm_cd mi pc with
  | some q => match zm_ret q.1 (zm_rt mi) st with
    | some v => some (.inl v, G)
    | none => none
  | none => none
section ZQ1
variable {N : zm_N} {d mi pc : Nat} {lv : zm_L} {st : List Value} {G : zm_H} {Q Q1 : zm_O → zm_H → Prop} {e : zq_E}
theorem zq_rt_ok {z : zm_O} {G' : zm_H} (h : zq_rt mi pc st G = some (z, G')) : zm_J N d mi pc lv st G (fun z1 G1 => z1 = z ∧ G1 = G') := by
  unfold zq_rt at h
  split at h
  · rename_i q hq
    split at h
    · rename_i v hv
      cases Option.some.inj h
      exact zm_J_fin zm_T hq hv ⟨rfl, rfl⟩
    · cases h
  · cases h
theorem zq_o_ok (hP : zq_P e) (h1 : e.1 = mi) (h2 : e.2.1 = pc) {r : List Value} (h : zq_o e d st = some r) (k : zm_J N d mi (pc + 3) lv r G Q) : zm_J N d mi pc lv st G Q := by
  subst h1
  subst h2
  unfold zq_o at h
  split at h
  · obtain ⟨hb, rfl⟩ := zq_cond h
    rw [Bool.and_eq_true, Bool.and_eq_true] at hb
    obtain ⟨d, rfl⟩ : ∃ y, d = y + 1 := ⟨d - 1, by have := Nat.le_of_ble_eq_true hb.2.1; omega⟩
    obtain ⟨hd, hok⟩ := hP.2.2.2.1 (Nat.eq_of_beq_eq_true hb.1)
    exact zm_J_O hd hok (Nat.le_of_ble_eq_true hb.2.2) k
  · cases h
theorem zq_t_ok (hP : zq_P e) (h1 : e.1 = mi) (h2 : e.2.1 = pc) {z : zm_O} {G' : zm_H} (h : zq_t e d st G = some (z, G')) : zm_J N d mi pc lv st G (fun z1 G1 => z1 = z ∧ G1 = G') := by
  subst h1
  subst h2
  unfold zq_t at h
  obtain ⟨hb, hx⟩ := zq_cond h
  rw [Bool.and_eq_true, Bool.and_eq_true, Bool.and_eq_true] at hb
  cases hx
  exact zm_J_throw (hP.2.2.2.2 (Nat.eq_of_beq_eq_true hb.1)) (Nat.le_of_ble_eq_true hb.2.1) (Nat.le_of_ble_eq_true hb.2.2.1) hb.2.2.2 ⟨rfl, rfl⟩
theorem zq_pl_ok (hP : zq_P e) (h1 : e.1 = mi) (h2 : e.2.1 = pc) {av r : List Value} (h : zq_pl e d st G = some (av, r)) (hJ : zm_J N (d - 1) e.2.2.2.2.1 0 (lv_args 0 av) [] G Q1)
    (kr : ∀ v G', Q1 (.inl v) G' → zm_J N d mi (pc + 3) lv (v.toList ++ r) G' Q) (kt : ∀ x G', Q1 (.inr x) G' → (zm_out mi pc ∧ Q (.inr x) G') ∨ ∃ h, zm_cat mi pc x.1 h ∧ zm_J N d mi h lv [.ref x.2] G' Q) : zm_J N d mi pc lv st G Q := by
  subst h1
  subst h2
  obtain ⟨mi, pc, k, idx, mj, n, x⟩ := e
  unfold zq_pl at h
  cases hd : Nat.ble 1 d with
  | false => rw [hd] at h; cases h
  | true =>
  rw [hd] at h
  have h : cond (Nat.beq k 0) (zq_pS (mi, pc, k, idx, mj, n, x) st G) (cond (Nat.beq k 1) (zq_pI (mi, pc, k, idx, mj, n, x) st G) (zq_pV (mi, pc, k, idx, mj, n, x) st G)) = some (av, r) := h
  obtain ⟨d, rfl⟩ : ∃ y, d = y + 1 := ⟨d - 1, by have := Nat.le_of_ble_eq_true hd; omega⟩
  rw [Nat.add_sub_cancel] at hJ
  cases h0 : Nat.beq k 0 with
  | true =>
    rw [h0] at h
    have h : cond (Nat.beq k 0 && (Nat.ble n st.length && zq_chk (st.take n).reverse (st.drop n) mj G)) (some ((st.take n).reverse, st.drop n)) none = some (av, r) := h
    obtain ⟨hb, hx⟩ := zq_cond h
    rw [Bool.and_eq_true, Bool.and_eq_true] at hb
    have hav : av = (st.take n).reverse := (congrArg Prod.fst hx).symm
    have hr : r = st.drop n := (congrArg Prod.snd hx).symm
    subst hav
    subst hr
    obtain ⟨g1, g2⟩ := hP.1 (Nat.eq_of_beq_eq_true hb.1)
    obtain ⟨c1, c2, c3, c4⟩ := zq_chk_ok hb.2.2
    have hn : (st.take n).reverse.length = n := by rw [List.length_reverse, List.length_take]; exact Nat.min_eq_left (Nat.le_of_ble_eq_true hb.2.1)
    have hst : (st.take n).reverse.reverse ++ st.drop n = st := by rw [List.reverse_reverse, List.take_append_drop]
    have hR := zm_J_S (av := (st.take n).reverse) (rest := st.drop n) (lv := lv) (Q := Q) g1 (by rw [hn]; exact g2) c1 c2 c3 c4 hJ kr kt
    rw [hst] at hR
    exact hR
  | false =>
    rw [h0] at h
    have h : cond (Nat.beq k 1) (zq_pI (mi, pc, k, idx, mj, n, x) st G) (zq_pV (mi, pc, k, idx, mj, n, x) st G) = some (av, r) := h
    cases h3 : Nat.beq k 1 with
    | true =>
      rw [h3] at h
      have h : zq_pI (mi, pc, k, idx, mj, n, x) st G = some (av, r) := h
      unfold zq_pI at h
      split at h
      · rename_i a r0 hdr
        have hdr : st.drop n = .ref a :: r0 := hdr
        have h : cond (Nat.beq k 1 && (Nat.ble n st.length && zq_chk (.ref a :: (st.take n).reverse) r0 mj G)) (some (.ref a :: (st.take n).reverse, r0)) none = some (av, r) := h
        obtain ⟨hb, hx⟩ := zq_cond h
        rw [Bool.and_eq_true, Bool.and_eq_true] at hb
        have hav : av = .ref a :: (st.take n).reverse := (congrArg Prod.fst hx).symm
        have hr : r0 = r := congrArg Prod.snd hx
        rw [hr] at hdr hb
        subst hav
        obtain ⟨g1, g2⟩ := hP.2.1 (Nat.eq_of_beq_eq_true hb.1)
        obtain ⟨c1, c2, c3, c4⟩ := zq_chk_ok hb.2.2
        have hn : (st.take n).reverse.length = n := by rw [List.length_reverse, List.length_take]; exact Nat.min_eq_left (Nat.le_of_ble_eq_true hb.2.1)
        have hst : (st.take n).reverse.reverse ++ .ref a :: r = st := by rw [List.reverse_reverse, ← hdr, List.take_append_drop]
        have hR := zm_J_I (a := a) (av := (st.take n).reverse) (rest := r) (lv := lv) (Q := Q) g1 (by rw [hn]; exact g2) c1 c2 c3 c4 hJ kr kt
        rw [hst] at hR
        exact hR
      · cases h
    | false =>
      rw [h3] at h
      have h : zq_pV (mi, pc, k, idx, mj, n, x) st G = some (av, r) := h
      unfold zq_pV at h
      split at h
      · rename_i a r0 hdr
        have hdr2 : st.drop n = .ref a :: r0 := hdr
        split at h
        · rename_i y hy
          obtain ⟨y1, fs⟩ := y
          have h : cond (Nat.beq k 2 && (Nat.beq y1 x && (Nat.ble n st.length && zq_chk (.ref a :: (st.take n).reverse) r0 mj G))) (some (.ref a :: (st.take n).reverse, r0)) none = some (av, r) := h
          obtain ⟨hb, hx⟩ := zq_cond h
          rw [Bool.and_eq_true, Bool.and_eq_true, Bool.and_eq_true] at hb
          have hav : av = .ref a :: (st.take n).reverse := (congrArg Prod.fst hx).symm
          have hr : r0 = r := congrArg Prod.snd hx
          rw [hr] at hdr2 hb
          subst hav
          obtain ⟨g1, g2⟩ := hP.2.2.1 (Nat.eq_of_beq_eq_true hb.1)
          obtain ⟨c1, c2, c3, c4⟩ := zq_chk_ok hb.2.2.2
          have hy1 : y1 = x := Nat.eq_of_beq_eq_true hb.2.1
          subst hy1
          have hn : (st.take n).reverse.length = n := by rw [List.length_reverse, List.length_take]; exact Nat.min_eq_left (Nat.le_of_ble_eq_true hb.2.2.1)
          have hst : (st.take n).reverse.reverse ++ .ref a :: r = st := by rw [List.reverse_reverse, ← hdr2, List.take_append_drop]
          have hR := zm_J_V (a := a) (x := y1) (fs := fs) (av := (st.take n).reverse) (rest := r) (lv := lv) (Q := Q) g1 (by rw [hn]; exact g2) hy c1 c2 c3 c4 hJ kr kt
          rw [hst] at hR
          exact hR
        · cases h
      · cases h
end ZQ1
/-- the run: f steps at most in a row, d frames of room, the calls' table C, the catches' table K -/
def zq_ev (C : List zq_E) (K : List (Nat × Nat × Nat × Nat)) : Nat → Nat → Nat → Nat → zm_L → List Value → zm_H → Option (zm_O × zm_H)
  | 0, _, _, _, _, _, _ => none
  | f + 1, d, mi, pc, lv, st, G => match zm_step mi (pc, lv, st, G) with
    | some s => zq_ev C K f d mi s.1 s.2.1 s.2.2.1 s.2.2.2
    | none => match zq_fd mi pc C with
      | none => zq_rt mi pc st G
      | some e => match zq_pl e d st G with
        | some q => match zq_ev C K f (d - 1) e.2.2.2.2.1 0 (lv_args 0 q.1) [] G with
          | none => none
          | some (.inl v, G') => zq_ev C K f d mi (pc + 3) lv (v.toList ++ q.2) G'
          | some (.inr y, G') => match zq_fc mi pc y.1 K with
            | some h => zq_ev C K f d mi h lv [.ref y.2] G'
            | none => match (zm_hd mi).isEmpty with
              | true => some (.inr y, G')
              | false => none
        | none => match zq_o e d st with
          | some r => zq_ev C K f d mi (pc + 3) lv r G
          | none => zq_t e d st G
set_option maxHeartbeats 1000000 in
theorem zq_ok {N : zm_N} {C : List zq_E} {K : List (Nat × Nat × Nat × Nat)} (hC : ∀ e ∈ C, zq_P e) (hK : ∀ e ∈ K, zm_cat e.1 e.2.1 e.2.2.1 e.2.2.2) : ∀ (f d mi pc : Nat) (lv : zm_L) (st : List Value) (G : zm_H) (z : zm_O) (G' : zm_H), zq_ev C K f d mi pc lv st G = some (z, G') → zm_J N d mi pc lv st G (fun z1 G1 => z1 = z ∧ G1 = G') := by
  intro f
  induction f with
  | zero =>
    intro d mi pc lv st G z G' h
    rw [zq_ev] at h
    cases h
  | succ f ih =>
    intro d mi pc lv st G z G' h
    rw [zq_ev] at h
    cases hs : zm_step mi (pc, lv, st, G) with
    | some s =>
      simp only [hs] at h
      refine zm_J_run0 zm_T 1 (s' := s) ?_ (ih _ _ _ _ _ _ _ _ h)
      show (match zm_step mi (pc, lv, st, G) with | some s' => zm_run mi 0 s' | none => none) = some s
      rw [hs]
      rfl
    | none =>
      cases he : zq_fd mi pc C with
      | none =>
        simp only [hs, he] at h
        exact zq_rt_ok h
      | some e =>
        obtain ⟨e1, e2, e3⟩ := zq_fd_ok he
        have hP := hC e e1
        cases hp : zq_pl e d st G with
        | some q =>
          obtain ⟨av, r⟩ := q
          cases hc : zq_ev C K f (d - 1) e.2.2.2.2.1 0 (lv_args 0 av) [] G with
          | none =>
            simp only [hs, he, hp, hc] at h
            cases h
          | some o =>
            obtain ⟨o, G1⟩ := o
            have hJ := ih _ _ _ _ _ _ _ _ hc
            cases o with
            | inl v =>
              simp only [hs, he, hp, hc] at h
              refine zq_pl_ok hP e2 e3 hp hJ ?_ ?_
              · intro v' G2 h2
                obtain ⟨h3, rfl⟩ := h2
                cases Sum.inl.inj h3
                exact ih _ _ _ _ _ _ _ _ h
              · intro y G2 h2
                exact nomatch h2.1
            | inr y =>
              refine zq_pl_ok hP e2 e3 hp hJ ?_ ?_
              · intro v' G2 h2
                exact nomatch h2.1
              · intro y' G2 h2
                obtain ⟨h3, rfl⟩ := h2
                cases Sum.inr.inj h3
                cases hf : zq_fc mi pc y.1 K with
                | some hh =>
                  simp only [hs, he, hp, hc, hf] at h
                  exact Or.inr ⟨hh, zq_fc_ok hK hf, ih _ _ _ _ _ _ _ _ h⟩
                | none =>
                  cases hm : (zm_hd mi).isEmpty with
                  | false =>
                    simp only [hs, he, hp, hc, hf, hm] at h
                    cases h
                  | true =>
                    simp only [hs, he, hp, hc, hf, hm] at h
                    cases Option.some.inj h
                    exact Or.inl ⟨zm_out0 (List.isEmpty_iff.mp hm), rfl, rfl⟩
        | none =>
          cases ho : zq_o e d st with
          | some r =>
            simp only [hs, he, hp, ho] at h
            exact zq_o_ok hP e2 e3 ho (ih _ _ _ _ _ _ _ _ h)
          | none =>
            simp only [hs, he, hp, ho] at h
            exact zq_t_ok hP e2 e3 h
end
section
/-! THE CALLS AND CATCHES THAT THE RUN MAY MEET, laid by wip/gen/refute.py -/
def zq_c0 : List zq_E := [(79, 5, 0, 87, 72, 3, 0), (79, 16, 0, 87, 72, 3, 0), (79, 27, 0, 87, 72, 3, 0), (78, 14, 2, 105, 77, 0, 5), (78, 19, 0, 109, 79, 1, 0), (78, 45, 0, 87, 72, 3, 0), (11, 4, 2, 7, 12, 1, 0), (12, 5, 2, 29, 13, 1, 1), (71, 44, 0, 87, 72, 3, 0), (71, 62, 2, 91, 73, 1, 5), (71, 83, 2, 98, 74, 1, 5), (13, 14, 0, 22, 14, 2, 0), (13, 100, 0, 22, 14, 2, 0), (13, 38, 4, 0, 0, 0, 0), (13, 78, 4, 0, 1, 0, 0), (26, 1, 0, 87, 27, 1, 0), (26, 11, 2, 106, 28, 1, 1), (28, 1, 0, 100, 29, 1, 0), (28, 8, 0, 50, 19, 1, 0), (28, 22, 2, 103, 23, 1, 1)]
theorem zq_c0_ok : ∀ e ∈ zq_c0, zq_P e := List.forall_mem_cons.mpr ⟨(zq_P0 (zm_T.1 79 5 _ rfl).1 zc_79_5), List.forall_mem_cons.mpr ⟨(zq_P0 (zm_T.1 79 16 _ rfl).1 zc_79_16), List.forall_mem_cons.mpr ⟨(zq_P0 (zm_T.1 79 27 _ rfl).1 zc_79_27), List.forall_mem_cons.mpr ⟨(zq_P2 (zm_T.1 78 14 _ rfl).1 zc_78_14), List.forall_mem_cons.mpr ⟨(zq_P0 (zm_T.1 78 19 _ rfl).1 zc_78_19), List.forall_mem_cons.mpr ⟨(zq_P0 (zm_T.1 78 45 _ rfl).1 zc_78_45), List.forall_mem_cons.mpr ⟨(zq_P2 (zm_T.1 11 4 _ rfl).1 zc_11_4), List.forall_mem_cons.mpr ⟨(zq_P2 (zm_T.1 12 5 _ rfl).1 zc_12_5), List.forall_mem_cons.mpr ⟨(zq_P0 (zm_T.1 71 44 _ rfl).1 zc_71_44), List.forall_mem_cons.mpr ⟨(zq_P2 (zm_T.1 71 62 _ rfl).1 zc_71_62), List.forall_mem_cons.mpr ⟨(zq_P2 (zm_T.1 71 83 _ rfl).1 zc_71_83), List.forall_mem_cons.mpr ⟨(zq_P0 (zm_T.1 13 14 _ rfl).1 zc_13_14), List.forall_mem_cons.mpr ⟨(zq_P0 (zm_T.1 13 100 _ rfl).1 zc_13_100), List.forall_mem_cons.mpr ⟨(zq_P4 zx_13_38), List.forall_mem_cons.mpr ⟨(zq_P4 zx_13_78), List.forall_mem_cons.mpr ⟨(zq_P0 (zm_T.1 26 1 _ rfl).1 zc_26_1), List.forall_mem_cons.mpr ⟨(zq_P2 (zm_T.1 26 11 _ rfl).1 zc_26_11), List.forall_mem_cons.mpr ⟨(zq_P0 (zm_T.1 28 1 _ rfl).1 zc_28_1), List.forall_mem_cons.mpr ⟨(zq_P0 (zm_T.1 28 8 _ rfl).1 zc_28_8), List.forall_mem_cons.mpr ⟨(zq_P2 (zm_T.1 28 22 _ rfl).1 zc_28_22), fun _ h => absurd h List.not_mem_nil⟩⟩⟩⟩⟩⟩⟩⟩⟩⟩⟩⟩⟩⟩⟩⟩⟩⟩⟩⟩
def zq_c1 : List zq_E := [(20, 12, 4, 0, 0, 0, 0), (25, 23, 2, 83, 26, 2, 1), (25, 34, 2, 54, 20, 1, 1), (25, 48, 0, 87, 27, 1, 0), (25, 80, 2, 91, 30, 1, 1), (25, 88, 2, 79, 25, 1, 1), (25, 102, 2, 79, 25, 1, 1), (25, 120, 2, 79, 25, 1, 1), (25, 141, 1, 97, 31, 5, 0), (30, 1, 0, 100, 29, 1, 0), (30, 20, 1, 97, 31, 5, 0), (30, 25, 0, 50, 19, 1, 0), (30, 44, 1, 97, 31, 5, 0), (30, 50, 2, 103, 23, 1, 1), (30, 68, 1, 97, 31, 5, 0), (30, 82, 1, 97, 31, 5, 0), (1, 1, 3, 1, 0, 0, 0), (1, 9, 1, 9, 3, 0, 0), (1, 20, 1, 18, 4, 0, 0), (3, 1, 3, 3, 0, 0, 0)]
theorem zq_c1_ok : ∀ e ∈ zq_c1, zq_P e := List.forall_mem_cons.mpr ⟨(zq_P4 zx_20_12), List.forall_mem_cons.mpr ⟨(zq_P2 (zm_T.1 25 23 _ rfl).1 zc_25_23), List.forall_mem_cons.mpr ⟨(zq_P2 (zm_T.1 25 34 _ rfl).1 zc_25_34), List.forall_mem_cons.mpr ⟨(zq_P0 (zm_T.1 25 48 _ rfl).1 zc_25_48), List.forall_mem_cons.mpr ⟨(zq_P2 (zm_T.1 25 80 _ rfl).1 zc_25_80), List.forall_mem_cons.mpr ⟨(zq_P2 (zm_T.1 25 88 _ rfl).1 zc_25_88), List.forall_mem_cons.mpr ⟨(zq_P2 (zm_T.1 25 102 _ rfl).1 zc_25_102), List.forall_mem_cons.mpr ⟨(zq_P2 (zm_T.1 25 120 _ rfl).1 zc_25_120), List.forall_mem_cons.mpr ⟨(zq_P1 (zm_T.1 25 141 _ rfl).1 zc_25_141), List.forall_mem_cons.mpr ⟨(zq_P0 (zm_T.1 30 1 _ rfl).1 zc_30_1), List.forall_mem_cons.mpr ⟨(zq_P1 (zm_T.1 30 20 _ rfl).1 zc_30_20), List.forall_mem_cons.mpr ⟨(zq_P0 (zm_T.1 30 25 _ rfl).1 zc_30_25), List.forall_mem_cons.mpr ⟨(zq_P1 (zm_T.1 30 44 _ rfl).1 zc_30_44), List.forall_mem_cons.mpr ⟨(zq_P2 (zm_T.1 30 50 _ rfl).1 zc_30_50), List.forall_mem_cons.mpr ⟨(zq_P1 (zm_T.1 30 68 _ rfl).1 zc_30_68), List.forall_mem_cons.mpr ⟨(zq_P1 (zm_T.1 30 82 _ rfl).1 zc_30_82), List.forall_mem_cons.mpr ⟨(zq_P3 (zm_T.1 1 1 _ rfl).1 zc_1_1), List.forall_mem_cons.mpr ⟨(zq_P1 (zm_T.1 1 9 _ rfl).1 zc_1_9), List.forall_mem_cons.mpr ⟨(zq_P1 (zm_T.1 1 20 _ rfl).1 zc_1_20), List.forall_mem_cons.mpr ⟨(zq_P3 (zm_T.1 3 1 _ rfl).1 zc_3_1), fun _ h => absurd h List.not_mem_nil⟩⟩⟩⟩⟩⟩⟩⟩⟩⟩⟩⟩⟩⟩⟩⟩⟩⟩⟩⟩
def zq_c2 : List zq_E := [(4, 1, 3, 3, 0, 0, 0), (4, 9, 1, 11, 5, 0, 0), (4, 28, 1, 24, 6, 0, 0), (4, 39, 1, 24, 6, 0, 0), (4, 50, 1, 24, 6, 0, 0), (5, 1, 3, 1, 0, 0, 0), (6, 1, 1, 1, 7, 0, 0), (7, 1, 1, 1, 8, 0, 0), (8, 1, 3, 1, 0, 0, 0), (31, 1, 3, 1, 0, 0, 0), (70, 1, 3, 1, 0, 0, 0), (0, 4, 1, 43, 1, 0, 0), (0, 12, 1, 46, 70, 0, 0), (0, 108, 0, 49, 11, 3, 0), (0, 136, 2, 54, 71, 1, 5), (0, 146, 0, 55, 15, 2, 0), (0, 152, 2, 58, 75, 0, 5), (0, 162, 0, 59, 33, 2, 0), (0, 168, 2, 61, 81, 0, 5), (0, 178, 0, 62, 61, 2, 0)]
theorem zq_c2_ok : ∀ e ∈ zq_c2, zq_P e := List.forall_mem_cons.mpr ⟨(zq_P3 (zm_T.1 4 1 _ rfl).1 zc_4_1), List.forall_mem_cons.mpr ⟨(zq_P1 (zm_T.1 4 9 _ rfl).1 zc_4_9), List.forall_mem_cons.mpr ⟨(zq_P1 (zm_T.1 4 28 _ rfl).1 zc_4_28), List.forall_mem_cons.mpr ⟨(zq_P1 (zm_T.1 4 39 _ rfl).1 zc_4_39), List.forall_mem_cons.mpr ⟨(zq_P1 (zm_T.1 4 50 _ rfl).1 zc_4_50), List.forall_mem_cons.mpr ⟨(zq_P3 (zm_T.1 5 1 _ rfl).1 zc_5_1), List.forall_mem_cons.mpr ⟨(zq_P1 (zm_T.1 6 1 _ rfl).1 zc_6_1), List.forall_mem_cons.mpr ⟨(zq_P1 (zm_T.1 7 1 _ rfl).1 zc_7_1), List.forall_mem_cons.mpr ⟨(zq_P3 (zm_T.1 8 1 _ rfl).1 zc_8_1), List.forall_mem_cons.mpr ⟨(zq_P3 (zm_T.1 31 1 _ rfl).1 zc_31_1), List.forall_mem_cons.mpr ⟨(zq_P3 (zm_T.1 70 1 _ rfl).1 zc_70_1), List.forall_mem_cons.mpr ⟨(zq_P1 (zm_T.1 0 4 _ rfl).1 zc_0_4), List.forall_mem_cons.mpr ⟨(zq_P1 (zm_T.1 0 12 _ rfl).1 zc_0_12), List.forall_mem_cons.mpr ⟨(zq_P0 (zm_T.1 0 108 _ rfl).1 zc_0_108), List.forall_mem_cons.mpr ⟨(zq_P2 (zm_T.1 0 136 _ rfl).1 zc_0_136), List.forall_mem_cons.mpr ⟨(zq_P0 (zm_T.1 0 146 _ rfl).1 zc_0_146), List.forall_mem_cons.mpr ⟨(zq_P2 (zm_T.1 0 152 _ rfl).1 zc_0_152), List.forall_mem_cons.mpr ⟨(zq_P0 (zm_T.1 0 162 _ rfl).1 zc_0_162), List.forall_mem_cons.mpr ⟨(zq_P2 (zm_T.1 0 168 _ rfl).1 zc_0_168), List.forall_mem_cons.mpr ⟨(zq_P0 (zm_T.1 0 178 _ rfl).1 zc_0_178), fun _ h => absurd h List.not_mem_nil⟩⟩⟩⟩⟩⟩⟩⟩⟩⟩⟩⟩⟩⟩⟩⟩⟩⟩⟩⟩
def zq_c3 : List zq_E := [(0, 184, 2, 64, 101, 0, 5), (0, 194, 0, 65, 63, 2, 0), (0, 200, 2, 67, 102, 0, 5), (0, 210, 0, 68, 66, 2, 0), (0, 216, 2, 70, 104, 0, 5), (0, 231, 0, 71, 68, 2, 0), (0, 243, 2, 74, 105, 1, 5), (0, 256, 2, 75, 9, 1, 0), (0, 266, 2, 79, 106, 1, 5), (9, 65, 2, 111, 10, 0, 0), (15, 3, 2, 17, 16, 0, 0), (17, 1, 2, 41, 18, 0, 1), (17, 25, 0, 50, 19, 1, 0), (17, 36, 2, 54, 20, 1, 1), (17, 63, 2, 58, 21, 0, 1), (17, 97, 2, 54, 20, 1, 1), (17, 120, 2, 66, 24, 0, 1), (17, 123, 1, 70, 32, 3, 0), (21, 29, 2, 73, 22, 1, 1), (22, 14, 2, 103, 23, 1, 1)]
theorem zq_c3_ok : ∀ e ∈ zq_c3, zq_P e := List.forall_mem_cons.mpr ⟨(zq_P2 (zm_T.1 0 184 _ rfl).1 zc_0_184), List.forall_mem_cons.mpr ⟨(zq_P0 (zm_T.1 0 194 _ rfl).1 zc_0_194), List.forall_mem_cons.mpr ⟨(zq_P2 (zm_T.1 0 200 _ rfl).1 zc_0_200), List.forall_mem_cons.mpr ⟨(zq_P0 (zm_T.1 0 210 _ rfl).1 zc_0_210), List.forall_mem_cons.mpr ⟨(zq_P2 (zm_T.1 0 216 _ rfl).1 zc_0_216), List.forall_mem_cons.mpr ⟨(zq_P0 (zm_T.1 0 231 _ rfl).1 zc_0_231), List.forall_mem_cons.mpr ⟨(zq_P2 (zm_T.1 0 243 _ rfl).1 zc_0_243), List.forall_mem_cons.mpr ⟨(zq_P2 (zm_T.1 0 256 _ rfl).1 zc_0_256), List.forall_mem_cons.mpr ⟨(zq_P2 (zm_T.1 0 266 _ rfl).1 zc_0_266), List.forall_mem_cons.mpr ⟨(zq_P2 (zm_T.1 9 65 _ rfl).1 zc_9_65), List.forall_mem_cons.mpr ⟨(zq_P2 (zm_T.1 15 3 _ rfl).1 zc_15_3), List.forall_mem_cons.mpr ⟨(zq_P2 (zm_T.1 17 1 _ rfl).1 zc_17_1), List.forall_mem_cons.mpr ⟨(zq_P0 (zm_T.1 17 25 _ rfl).1 zc_17_25), List.forall_mem_cons.mpr ⟨(zq_P2 (zm_T.1 17 36 _ rfl).1 zc_17_36), List.forall_mem_cons.mpr ⟨(zq_P2 (zm_T.1 17 63 _ rfl).1 zc_17_63), List.forall_mem_cons.mpr ⟨(zq_P2 (zm_T.1 17 97 _ rfl).1 zc_17_97), List.forall_mem_cons.mpr ⟨(zq_P2 (zm_T.1 17 120 _ rfl).1 zc_17_120), List.forall_mem_cons.mpr ⟨(zq_P1 (zm_T.1 17 123 _ rfl).1 zc_17_123), List.forall_mem_cons.mpr ⟨(zq_P2 (zm_T.1 21 29 _ rfl).1 zc_21_29), List.forall_mem_cons.mpr ⟨(zq_P2 (zm_T.1 22 14 _ rfl).1 zc_22_14), fun _ h => absurd h List.not_mem_nil⟩⟩⟩⟩⟩⟩⟩⟩⟩⟩⟩⟩⟩⟩⟩⟩⟩⟩⟩⟩
def zq_c4 : List zq_E := [(24, 7, 2, 79, 25, 1, 1), (24, 28, 2, 54, 20, 1, 1), (33, 3, 2, 21, 34, 0, 0), (34, 4, 2, 44, 35, 0, 1), (34, 17, 2, 52, 36, 0, 2), (34, 35, 2, 61, 37, 3, 0), (35, 1, 2, 41, 18, 0, 1), (35, 5, 2, 66, 24, 0, 1), (61, 3, 2, 30, 62, 0, 0), (63, 3, 2, 33, 64, 0, 0), (66, 3, 2, 36, 67, 0, 0), (68, 2, 2, 39, 69, 1, 0), (81, 7, 2, 119, 78, 1, 5), (81, 25, 2, 91, 73, 1, 5), (81, 39, 2, 229, 82, 0, 5), (81, 44, 2, 123, 80, 1, 5), (81, 66, 2, 232, 84, 2, 5), (81, 70, 2, 235, 100, 0, 5)]
theorem zq_c4_ok : ∀ e ∈ zq_c4, zq_P e := List.forall_mem_cons.mpr ⟨(zq_P2 (zm_T.1 24 7 _ rfl).1 zc_24_7), List.forall_mem_cons.mpr ⟨(zq_P2 (zm_T.1 24 28 _ rfl).1 zc_24_28), List.forall_mem_cons.mpr ⟨(zq_P2 (zm_T.1 33 3 _ rfl).1 zc_33_3), List.forall_mem_cons.mpr ⟨(zq_P2 (zm_T.1 34 4 _ rfl).1 zc_34_4), List.forall_mem_cons.mpr ⟨(zq_P2 (zm_T.1 34 17 _ rfl).1 zc_34_17), List.forall_mem_cons.mpr ⟨(zq_P2 (zm_T.1 34 35 _ rfl).1 zc_34_35), List.forall_mem_cons.mpr ⟨(zq_P2 (zm_T.1 35 1 _ rfl).1 zc_35_1), List.forall_mem_cons.mpr ⟨(zq_P2 (zm_T.1 35 5 _ rfl).1 zc_35_5), List.forall_mem_cons.mpr ⟨(zq_P2 (zm_T.1 61 3 _ rfl).1 zc_61_3), List.forall_mem_cons.mpr ⟨(zq_P2 (zm_T.1 63 3 _ rfl).1 zc_63_3), List.forall_mem_cons.mpr ⟨(zq_P2 (zm_T.1 66 3 _ rfl).1 zc_66_3), List.forall_mem_cons.mpr ⟨(zq_P2 (zm_T.1 68 2 _ rfl).1 zc_68_2), List.forall_mem_cons.mpr ⟨(zq_P2 (zm_T.1 81 7 _ rfl).1 zc_81_7), List.forall_mem_cons.mpr ⟨(zq_P2 (zm_T.1 81 25 _ rfl).1 zc_81_25), List.forall_mem_cons.mpr ⟨(zq_P2 (zm_T.1 81 39 _ rfl).1 zc_81_39), List.forall_mem_cons.mpr ⟨(zq_P2 (zm_T.1 81 44 _ rfl).1 zc_81_44), List.forall_mem_cons.mpr ⟨(zq_P2 (zm_T.1 81 66 _ rfl).1 zc_81_66), List.forall_mem_cons.mpr ⟨(zq_P2 (zm_T.1 81 70 _ rfl).1 zc_81_70), fun _ h => absurd h List.not_mem_nil⟩⟩⟩⟩⟩⟩⟩⟩⟩⟩⟩⟩⟩⟩⟩⟩⟩⟩
def zq_cs : List zq_E := zq_c0 ++ (zq_c1 ++ (zq_c2 ++ (zq_c3 ++ (zq_c4))))
theorem zq_cs_ok : ∀ e ∈ zq_cs, zq_P e := (fun e h => (List.mem_append.mp h).elim (zq_c0_ok e) ((fun e h => (List.mem_append.mp h).elim (zq_c1_ok e) ((fun e h => (List.mem_append.mp h).elim (zq_c2_ok e) ((fun e h => (List.mem_append.mp h).elim (zq_c3_ok e) (zq_c4_ok e)) e)) e)) e))
def zq_ts : List (Nat × Nat × Nat × Nat) := [(11, 4, 0, 12), (11, 4, 1, 16), (15, 3, 0, 11), (33, 3, 0, 11), (33, 3, 2, 14), (33, 3, 4, 17), (33, 3, 1, 20), (33, 3, 3, 23), (61, 3, 2, 11), (61, 3, 3, 14), (63, 3, 2, 11), (63, 3, 4, 14), (63, 3, 1, 17), (63, 3, 3, 20), (66, 3, 2, 11), (66, 3, 4, 14), (66, 3, 1, 17), (66, 3, 3, 20), (68, 2, 0, 8), (68, 2, 2, 11)]
theorem zq_ts_ok : ∀ e ∈ zq_ts, zm_cat e.1 e.2.1 e.2.2.1 e.2.2.2 := List.forall_mem_cons.mpr ⟨zt_11_0, List.forall_mem_cons.mpr ⟨zt_11_1, List.forall_mem_cons.mpr ⟨zt_15_0, List.forall_mem_cons.mpr ⟨zt_33_0, List.forall_mem_cons.mpr ⟨zt_33_2, List.forall_mem_cons.mpr ⟨zt_33_4, List.forall_mem_cons.mpr ⟨zt_33_1, List.forall_mem_cons.mpr ⟨zt_33_3, List.forall_mem_cons.mpr ⟨zt_61_2, List.forall_mem_cons.mpr ⟨zt_61_3, List.forall_mem_cons.mpr ⟨zt_63_2, List.forall_mem_cons.mpr ⟨zt_63_4, List.forall_mem_cons.mpr ⟨zt_63_1, List.forall_mem_cons.mpr ⟨zt_63_3, List.forall_mem_cons.mpr ⟨zt_66_2, List.forall_mem_cons.mpr ⟨zt_66_4, List.forall_mem_cons.mpr ⟨zt_66_1, List.forall_mem_cons.mpr ⟨zt_66_3, List.forall_mem_cons.mpr ⟨zt_68_0, List.forall_mem_cons.mpr ⟨zt_68_2, fun _ h => absurd h List.not_mem_nil⟩⟩⟩⟩⟩⟩⟩⟩⟩⟩⟩⟩⟩⟩⟩⟩⟩⟩⟩⟩
end
section
/-! THE LAW'S ANSWER AT ONE SCRIPT, by the kernel; laid by wip/gen/refute.py -/
def zz_S : List Int32 := [0, 1061109567, 1061109567, 0, 1061109553, 825307441, 0, 49, 826228543, 2, 0, 0, 7, 0, 0]
def zz_is0 (r : Option (zm_O × zm_H)) : Bool := match r with
  | some (.inl (some (.int v)), _) => v == 0
  | _ => false
theorem zz_is0_ok {r : Option (zm_O × zm_H)} (h : zz_is0 r = true) : ∃ G, r = some (.inl (some (.int 0)), G) := by
  unfold zz_is0 at h
  split at h
  · rename_i v G
    have hv : v = 0 := by simpa using h
    exact ⟨G, by rw [hv]⟩
  · cases h
set_option maxRecDepth 1000000 in
theorem zz_run : zz_is0 (zq_ev zq_cs zq_ts 3000 64 0 0 [(0, .ref 0)] [] (zm_G0h 15 (fun j => zz_S.getD j 0))) = true := by decide +kernel
/-- whoever starts the law with this script: it comes to its end with false -/
theorem zz_law (N : zm_N) (d : Nat) (hd : 64 ≤ d) : zm_J N d 0 0 [(0, .ref 0)] [] (zm_G0h 15 (fun j => zz_S.getD j 0)) (fun z _ => z = .inl (some (.int 0))) := by
  obtain ⟨G, hG⟩ := zz_is0_ok zz_run
  exact zm_J_d hd ((zq_ok zq_cs_ok zq_ts_ok _ _ _ _ _ _ _ _ _ hG).mono (fun z G' h => h.1))
end
section
/-! THE CLAIM IS FALSE: at the script zz_S the law answers false, and the witness's own start with this script meets all that the claim asks of a start. Laid by wip/gen/refute.py -/
def zz_law_name : String := "NeedMachineLaw"
def zz_P (b : Addr) (args : Array Value) (s : State) : Prop := args = #[.ref b] ∧ s.IntsAt b zz_S ∧ (Jvm.Cond.and given_1 narrow_1).before args s = true
def zz_Q (_ : Array Value) (_ : State) (o : Outcome) (_ : State) : Prop := o = .returned (some (.int 0))
set_option maxHeartbeats 4000000 in
theorem zz_walk (l : Launch) (hlt : l.stackTraces = false) (b : Addr) : MetFree l x (headSpec (Jvm.Cond.code x code maxLocals ret :: tables_1) room_1) (zz_P b) (fun _ _ _ _ _ => True) zz_Q := by
  refine MetFree.of_bodyS (code := code) (maxLocals := maxLocals) (ret := ret) (by decide) ?_ ?_
  · intro args s m h hn
    obtain ⟨meth, c, h1, h2, h3, h4, h5, h6, -, -⟩ := Cond.code_spec hn (atoms_spec (ws := Jvm.Cond.code x code maxLocals ret :: tables_1) h _ List.mem_cons_self)
    exact ⟨meth, c, h1, h2, h3, h4, h5, h6⟩
  · intro p e s m args below meth c s₁ B hml0 hP _
    obtain ⟨rfl, hx, hgv⟩ := hP
    obtain ⟨scr, harrAt, hlist, hof, hsmall⟩ := hx
    obtain ⟨hcb, hkn, -, -⟩ := State.arrayAt?_spec harrAt
    have hown : s.vm.findClass zz_law_name = some m.cls := findClass_of_methodNamed B.named
    have hts0 : ∀ c ∈ (Jvm.Cond.code x code maxLocals ret :: tables_1), c.before #[Value.ref b] s = true := atoms_spec (ws := Jvm.Cond.code x code maxLocals ret :: tables_1) B.pre
    have hts : ∀ w ∈ lw_tbl, w.before #[Value.ref b] s = true := k2_hts_sels lw_privs (fun w hw => hts0 w (List.mem_cons_of_mem _ hw)) lw_privs_ok
    have hml : c.maxLocals = 7 := B.maxLocals_eq (hts0 _ List.mem_cons_self)
    have X₀ : Stand p l e room_1 s m #[Value.ref b] below meth c s₁ [] 0 0 := Stand.of_body B
    have hh0 : s₁.heap = s.heap := by rw [B.state]; rfl
    have hsz : scr.slots.size = zz_S.length := by rw [← Array.length_toList, hlist, List.length_map]
    have hval : ∀ j : Nat, j < zz_S.length → scr.slots[j]? = some (.int (zz_S.getD j 0)) := fun j hj => by
      rw [← Array.getElem?_toList, hlist]
      simp [hj]
    have hbl : b < s.heap.size := (Array.getElem?_eq_some_iff.mp hcb).1
    have hX : va_X b zz_S.length (fun j => zz_S.getD j 0) s s.heap := ⟨scr, hcb, hof, hkn, hsz, hval⟩
    obtain ⟨N, hNl, hNs, hN0, hR⟩ := zm_start l hlt hts hX hbl hgv
    subst hNl
    subst hNs
    subst hN0
    obtain ⟨meth', c', g1, g2, g3, g4, g5, g6, g7, g8⟩ := Cond.code_spec B.named (hts0 _ List.mem_cons_self)
    cases Option.some.inj (g1.symm.trans X₀.method)
    cases Option.some.inj (g2.symm.trans X₀.code)
    have hexc : c.exceptionTable = #[] := by simpa using g7
    have hC : zm_Cx N 2048 0 p room_1 N.s0 m meth c 0 := by
      refine ⟨B.exec, B.bytes, hml, hown, State.WarmedH.refl _, B.notSynchronized, B.returns, (name_of_methodNamed B.named X₀.method).1, by rw [hexc]; rfl, Nat.le_of_ble_eq_true rfl, Nat.le_of_ble_eq_true rfl, ?_, Nat.le_of_ble_eq_true rfl⟩
      have hz : N.b = N.s0.heap.size := rfl
      show N.b + zm_C ≤ N.s0.heap.size + 601024 + 2
      rw [hz, Nat.add_assoc]
      exact Nat.add_le_add_left (Nat.le_of_ble_eq_true rfl) _
    have hl := lv_entry [Value.ref (N.ad 0)] (n := 7) (Nat.le_of_ble_eq_true rfl)
    have hJ := zz_law N 2048 (by decide) p e room_1 N.s0 m #[Value.ref (N.ad 0)] below meth c 0 hC N.s0.heap [] _ 0 0 hR hl (fun q h => by cases h) rfl rfl
    have K : W p N.l e room_1 N.s0 m #[Value.ref (N.ad 0)] below meth c s₁.heap [] 0 0 (fun t => ∃ o, t.status = .running ∧ Ended t below o ∧ o = .returned (some (.int 0))) (entryFrame m ([Value.ref (N.ad 0)] : List Value).toArray 7) := by
      rw [hh0, lg_entry_eq]
      refine zm_Wmono ?_ hJ
      intro t ht
      obtain ⟨z, G, o, Ls, ce, sl, h1, h2, h3, h4, h7⟩ := ht
      have h4 : z = .inl (some (.int 0)) := h4
      subst h4
      exact ⟨o, h1, h2, h3⟩
    obtain ⟨t, a1, o, b1, b2, b3⟩ := K s₁ rfl X₀
    exact ⟨t, o, a1, b1, b2, b3⟩
/-- at a start with this script the second half of the claim fails -/
theorem zz_falls {l : Launch} (hfl : l.flags = flags0) {p : Program} {e : Env} {s : State} {m : MethodId} {args : Array Value} {below : List Frame} {b : Addr} (hA : AtStart classFile x code maxLocals ret World_1 tables_1 room_1 Calls_1 rest_1 Pre_1 l p e s m args below) (ha : args = #[.ref b]) (hx : s.IntsAt b zz_S) : ¬ Claimed_1_2 := by
  intro hC
  have hlt : l.stackTraces = false := by unfold Launch.stackTraces; rw [hfl]; decide +kernel
  obtain ⟨hL, hW, had, _, hc, hk, hf, hfit, hheap, happ, h1, h2, h3⟩ := hA
  obtain ⟨n, o, w1, r1, e1, post, _⟩ := hC l hfl hL hW p e had hc hk s m args below hf hfit hheap happ ⟨h1, h2, h3⟩
  obtain ⟨n', o', w2, r2, e2, hq⟩ := zz_walk l hlt b p e had hc hk s m args below hf ((Spec.applies_iff_loose hf).mp happ).1 ⟨ha, hx, h3⟩ trivial
  have hn : n = n' := by
    rcases Nat.lt_trichotomy n n' with h | h | h
    · exact absurd (w2 n h) e1.not_within
    · exact h
    · exact absurd (w1 n' h) e2.not_within
  subst hn
  have ho := e1.outcome_unique e2
  subst ho
  have hq : o = .returned (some (.int 0)) := hq
  subst hq
  have post : limb_1_2.after args s (.returned (some (.int 0))) (stepsAlone p.tables e n s) = true := post
  have hp := Cond.after_iff.mp post
  rw [show limb_1_2 = Cond.eq .result (.int 1) from rfl, Cond.eq_ints (x := 0) (y := 1) rfl rfl] at hp
  simp at hp
/-! the start: the witness's, with this script -/
def zz_cells : Array Value := (zz_S.map Value.int).toArray
def zz_about : State := start1.aboutOf zz_cells
set_option maxRecDepth 100000 in
theorem zz_onT : (Jvm.Cond.code x code maxLocals ret :: tables_1).all (fun w => (w.onTables && w.keeps) || w.before start1.args0 zz_about) = true := by decide +kernel
theorem zz_words : ∀ c ∈ (Jvm.Cond.code x code maxLocals ret :: tables_1), c.before start1.args0 zz_about = true := by
  intro c hc
  have h := List.all_eq_true.mp zz_onT c hc
  have hW : start1.about.WarmedH zz_about.vm := State.WarmedH.refl start1.about
  rcases (Bool.or_eq_true _ _).mp h with h | h
  · exact word_at hW (Or.inl h) (start1.words c hc)
  · exact h
set_option maxRecDepth 16384 in
theorem zz_atStart : AtStart classFile x code maxLocals ret World_1 tables_1 room_1 Calls_1 rest_1 Pre_1 launch0 start1.p0 start1.e0 zz_about ⟨0, 0⟩ start1.args0 Lib.HandBits.below0 :=
  ⟨lists_1, trivial, launch0.admits_env _ _ _, launch0.least_env, fairChoices_fair.cas, fairChoices_fair.clock, rfl, by decide +kernel, by decide +kernel,
    (Spec.applies_iff rfl).mpr ⟨rfl, rfl, rfl, by decide +kernel, by decide +kernel, by decide +kernel, launch0.hasRoom_least _ room_1 (by decide +kernel) (by decide +kernel) (by decide +kernel) (by decide +kernel) (by decide +kernel) (by decide +kernel), atoms_intro zz_words⟩,
    trivial, (show rest_1_c.before start1.args0 zz_about = true by decide +kernel), (show (Cond.and given_1 narrow_1).before start1.args0 zz_about = true by decide +kernel)⟩
theorem zz_ints : zz_about.IntsAt 0 zz_S := by
  refine ⟨_, rfl, rfl, ?_, by decide⟩
  exact ⟨fun k h => (by cases h), _, rfl, _, rfl⟩
/-- THE CLAIM IS FALSE -/
theorem zz_false : ¬ (Claimed_1_1 ∧ Claimed_1_2) := fun h => zz_falls rfl zz_atStart rfl zz_ints h.2
end
